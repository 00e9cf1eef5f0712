/-! the search: the class compares what a pattern made -/
def cpC (u u' : q_W) : Prop := (∀ c, c ≠ 12 → c ≠ 13 → c ≠ 37 → u'.1 c = u.1 c) ∧ (∀ k, k ≠ 10 → k ≠ 11 → u'.1 37 k = u.1 37 k) ∧ (∀ c k, ¬ (c = 12 ∧ k = 1) → u'.2.1 c k = u.2.1 c k) ∧ u'.2.2 = u.2.2
theorem compare_ok {K t sh B : Nat} {u v : q_W} (h : RWE K u v) (hK : K ≤ 120) (ht : t ≤ 9) {a2 : Int32} (ha : q_imin a2 9 = nI t) (h6 : u.1 14 6 = nI sh) (hB : B < 2 ^ 31) (h11 : u.1 37 11 = nI B) (code : Int32) : ∃ u', fX3_compare code a2 u = some ((), u') ∧ cpC u u' ∧ u'.1 37 11 = nI (min B (cntU (cellS K t (kR u) (zR u) sh) (fun i => u.1 15 i) 256 0)) ∧ u'.1 37 10 = if B ≤ cntU (cellS K t (kR u) (zR u) sh) (fun i => u.1 15 i) 256 0 then u.1 37 10 else code := by
  have hqN : 256 < q_N := Nat.le_of_ble_eq_true rfl
  have V := BV_rows h hK ht
  obtain ⟨w, e1, e2, e3, e4, e5, e6⟩ := pickAll_lok (b := 0) (K := K) (by omega) hK K q_N 0 (q_sI (q_sI (q_sR u 12 1 9) 12 2 0) 12 3 (nI t)) (by omega) (by omega) (by rw [sI_k _ _ _ _ _ (by decide), sI_same]; rfl)
  have wc : ∀ c, c ≠ 12 → c ≠ 13 → w.1 c = u.1 c := fun c x y => by
    rw [e4 c x y, sI_cell _ _ _ _ _ x, sI_cell _ _ _ _ _ x]
    rfl
  have w21 : ∀ c k, w.2.1 c k = if c = 12 ∧ k = 1 then 9 else u.2.1 c k := fun c k => by
    rw [e6]
    rfl
  have w22 : w.2.2 = u.2.2 := by rw [e6]; rfl
  have H : BC 9 K t (fun i => i) (kR u) (zR u) w := by
    refine ⟨Or.inr rfl, by rw [w21, if_pos ⟨rfl, rfl⟩], e2, by rw [e5 3 (by decide), sI_same], K, by omega, by rw [wc 9 (by decide) (by decide), h.1], fun i hi => ⟨hi, ?_, ?_, fun j hj => ?_⟩⟩
    · rw [e3, if_pos (by omega), Nat.zero_add]
    · rw [wc 10 (by decide) (by decide)]
      exact (RWE_kR h hi).2.1
    · rw [wc 11 (by decide) (by decide)]
      rfl
  obtain ⟨w', f1, f2, f3⟩ := upTo_lok (q0 := 14) (Or.inl rfl) (sh := sh) V hB 256 q_N 0 0 w (by omega) hqN (by omega) (Nat.le_refl 0) H (by rw [wc 14 (by decide) (by decide), h6])
  have e15 : (fun i => w.1 (14 + 1) i) = fun i => u.1 15 i := by
    rw [show 14 + 1 = 15 by rfl, wc 15 (by decide) (by decide)]
  rw [e15, Nat.zero_add, nI_0] at f1
  generalize cntU (cellS K t (kR u) (zR u) sh) (fun i => u.1 15 i) 256 0 = c at *
  have w'c : ∀ c, c ≠ 12 → c ≠ 13 → w'.1 c = u.1 c := fun c x y => by rw [f2 c x, wc c x y]
  have hcmp : fX3_compare code a2 u = (if nI B ≤ nI (min B c) then some ((), w') else some ((), q_sI (q_sI w' 37 11 (nI (min B c))) 37 10 code)) := by
    unfold fX3_compare fX0_begin fX6_size
    rw [if_pos (by decide), q_lt_eq, q_lt_eq, q_lt_eq, ha, q_b_some, if_pos (by decide), q_b_some]
    have s9 : (q_sI (q_sI (q_sR u 12 1 9) 12 2 0) 12 3 (nI t)).1 9 2 = nI K := by
      rw [sI_cell _ _ _ _ 9 (by decide), sI_cell _ _ _ _ 9 (by decide)]
      exact h.1
    rw [s9]
    unfold fX3_pickAll fX3_pickAll_l2
    rw [nI_0] at e1
    rw [e1, q_b_some]
    unfold fX8_unlikeUpTo fX8_unlikeUpTo_l5
    rw [if_pos (by decide), wc 37 (by decide) (by decide), h11, f1, q_b_some, w'c 37 (by decide) (by decide), h11, q_lt_eq, q_lt_eq]
  by_cases cB : B ≤ c
  · have em : min B c = B := by omega
    refine ⟨w', ?_, ⟨fun x a b _ => w'c x a b, fun k _ _ => by rw [w'c 37 (by decide) (by decide)], fun x k hx => by rw [f3, w21, if_neg hx], by rw [f3, w22]⟩, ?_, ?_⟩
    · rw [hcmp, em, if_pos (by rw [nI_leI hB hB]; omega)]
    · rw [w'c 37 (by decide) (by decide), h11, em]
    · rw [if_pos cB, w'c 37 (by decide) (by decide)]
  · refine ⟨_, by rw [hcmp, if_neg (by rw [nI_leI hB (by omega)]; omega)], ⟨fun x a b d => ?_, fun k a b => ?_, fun x k hx => ?_, ?_⟩, ?_, ?_⟩
    · rw [sI_cell _ _ _ _ _ d, sI_cell _ _ _ _ _ d, w'c x a b]
    · rw [sI_k _ _ _ _ _ a, sI_k _ _ _ _ _ b, w'c 37 (by decide) (by decide)]
    · show w'.2.1 x k = _
      rw [f3, w21, if_neg hx]
    · show w'.2.2 = _
      rw [f3, w22]
    · rw [sI_k _ _ _ _ _ (by decide), sI_same]
    · rw [if_neg cB, sI_same]
