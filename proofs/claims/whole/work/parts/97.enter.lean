/-! a deed begins; a name comes in reach; a for ends -/
theorem enter_both {P T s t r : Nat} {nl : List (List Nat)} {sl : Nat → Nat} {L1 L2 : Nat × Int32} {ws : List Int32} {cs : List Tr} {u v : q_W} (E : EC T s nl sl u v) (hC : PC P t L1 ws u) (hR : PR s t L2 cs [] 0 v) (ht : t ≤ T) (hw : ws.length ≤ 1700) (hc : cs.length ≤ 1300) (h3 : v.1 3 t = nI r) (hr : rOK r) (n0 : r ≠ 0) (n3 : r ≠ 3) : ∃ u1 v1 u2 v2, fX4_add_ P 1 (u.1 27 t) u = some ((), u1) ∧ u1.2.1 23 11 = P ∧ fX5_take (km r) u1 = some ((), u2) ∧ fX11_emit 8 (v.1 4 t) 0 v = some ((), v1) ∧ fX11_next v1 = some ((), v2) ∧ frP1 P u u2 ∧ frR1 s v v2 ∧ ((t < T ∧ PC P (t + 1) L1 (ws ++ [1, u.1 27 t]) u2 ∧ PR s (t + 1) L2 (cs ++ [(8, u.1 27 t, 0)]) [] 0 v2) ∨ ∃ f p m, FC P f p u2 ∧ FR s f p m v2) := by
  have hT := E.1.1
  obtain ⟨r', q1, q2, q3, q4, q5, q6, q7⟩ := tkn E ht
  clear q5 q6
  obtain ⟨u1, e1, a1, b1⟩ := add2_st hC (by omega) 1 (u.1 27 t)
  obtain ⟨v1, e2, a2, b2⟩ := emit_st hR (by omega) ((8, v.1 4 t, 0) : Tr)
  have e2 : fX11_emit 8 (v.1 4 t) 0 v = some ((), v1) := e2
  have E1 := EC_fr hC.1 E b1 b2
  have hl : (cs ++ [((8, v.1 4 t, 0) : Tr)]).length = cs.length + 1 := by rw [List.length_append]; rfl
  rcases step_both E1 a1 a2 ht (by rw [hl]; omega) (by rw [(frR4 b2).1, h3]) hr n0 n3 with ⟨h1, u2, v2, e3, e4, a3, a4, b3, b4⟩ | ⟨f, p, u2, v2, m, e3, a3, b3, e4, a4, b4⟩
  · rw [q4] at a4
    exact ⟨u1, v1, u2, v2, e1, a1.2.1, e3, e2, e4, frP1_t b1 b3, frR1_t b2 b4, Or.inl ⟨h1, a3, a4⟩⟩
  · exact ⟨u1, v1, u2, v2, e1, a1.2.1, e3, e2, e4, frP1_t b1 b3, frR1_t b2 b4, Or.inr ⟨f, p, m, a3, a4⟩⟩
theorem adI_idem {o : Option Nat} {p : Int32} {L : Nat × Int32} : noteL (3, p) (adI o p L) = noteL (3, p) L := by
  cases o with
  | none => rfl
  | some i => exact noteL_idem
theorem adI_5 {o : Option Nat} {p : Int32} {L : Nat × Int32} (h : L.1 ≤ 5) : (adI o p L).1 ≤ 5 := by
  cases o with
  | none => exact h
  | some i => exact noteL_5 (by show 3 ≤ 5; omega) h
theorem reaches_lok {T s t op tk : Nat} {cs : List Tr} {W : List Nat} {nl : List (List Nat)} {sl : Nat → Nat} {u : q_W} {L : Nat × Int32} (hL : L.1 ≤ 5) (hn : nl.length < 8) {l : List Nat} (hl : okL l) (htk : tk ≤ 500) : ∀ d N k (v : q_W), k + d = nl.length → d < N → EC T s nl sl u v → PR s t (adI (idF nl l k 0) (v.1 4 tk) L) cs W op v → v.2.2 6 tk = lN (r2 l) → ∃ v', q_it N fX11_reaches_h2 (fun _ _ _ => none) (nI tk) (nI k) v = some ((), v') ∧ PR s t (adI (idF nl l nl.length 0) (v.1 4 tk) L) cs W op v' ∧ v'.1 0 28 = nI (nl.length + 1) ∧ v'.2.2 15 nl.length = lN (r2 l) ∧ (∀ i, i ≠ nl.length → v'.2.2 15 i = v.2.2 15 i) ∧ (∀ q, q ≠ 0 → q ≠ 12 → q ≠ 13 → q ≠ 14 → q ≠ 20 → v'.1 q = v.1 q) ∧ (∀ k, k = 30 → v'.1 0 k = v.1 0 k) ∧ frH s v v' := by
  intro d
  induction d with
  | zero =>
    intro N k v hk hN E hR hnm
    obtain ⟨N, rfl⟩ : ∃ M, N = M + 1 := ⟨N - 1, by omega⟩
    have hk' : k = nl.length := by omega
    subst hk'
    have h28 := E.2.2.2.2.1
    rw [q_itS, fX11_reaches_h2, h28, if_pos (by rw [nI_leI (by omega) (by omega)]; omega), if_pos (show q_inb (nI tk) 503 from q_inb_nI (by omega) (by omega)), q_lt_eq, if_pos (q_inb_nI hn (by omega)), q_lt_eq, q_lt_eq, q_ix_nI (show nl.length < 2 ^ 31 by omega), q_ix_nI (show tk < 2 ^ 31 by omega), hnm]
    have e28 : (q_sL v 15 nl.length (lN (r2 l))).1 0 28 = nI nl.length := h28
    rw [e28, nI_1]
    refine ⟨_, rfl, PR_set (k := 28) hR _ (by omega), sI_same _ _ _ _, ?_, fun i hi => ?_, fun q h0 _ _ _ _ => sI_cell _ _ _ _ _ h0, fun k hk => sI_k _ _ _ _ _ (by omega), ?_⟩
    · show (if 15 = 15 ∧ nl.length = nl.length then lN (r2 l) else _) = _
      simp
    · show (if 15 = 15 ∧ i = nl.length then lN (r2 l) else v.2.2 15 i) = _
      simp [hi]
    · exact frH_t (b := q_sL v 15 nl.length (lN (r2 l))) ⟨fun _ _ _ _ _ _ _ _ _ _ => rfl, fun _ _ _ _ _ _ _ _ => rfl, fun _ _ => ⟨rfl, rfl, rfl⟩, rfl, fun q hq => by
        funext i
        show (if q = 15 ∧ i = nl.length then _ else v.2.2 q i) = _
        simp [hq]⟩ (frH_0 s _ 28 _ (by omega))
  | succ d ih =>
    intro N k v hk hN E hR hnm
    obtain ⟨N, rfl⟩ : ∃ M, N = M + 1 := ⟨N - 1, by omega⟩
    obtain ⟨hk8, _, hb⟩ := E.2.2.2.2.2.1 k (by omega)
    rw [q_itS, fX11_reaches_h2, E.2.2.2.2.1, if_neg (by rw [nI_leI (by omega) (by omega)]; omega), if_pos (q_inb_nI (by omega) (by omega)), if_pos (show q_inb (nI tk) 503 from q_inb_nI (by omega) (by omega)), q_ix_nI (show k < 2 ^ 31 by omega), q_ix_nI (show tk < 2 ^ 31 by omega), hb, hnm]
    unfold fX11_reaches_n32
    have hsn := idF_snoc nl l k 0
    rw [Nat.zero_add] at hsn
    by_cases e : gN nl k = l
    · obtain ⟨v1, e1, a1, b1⟩ := wrong_st hR (adI_5 hL) htk 3 (by omega)
      have e1 : fX11_wrong 3 (nI tk) v = some ((), v1) := e1
      rw [if_pos ((lg_cmp_eq _ _).mpr (by rw [e])), e1, q_b_some, q_lt_eq, nI_1]
      have f4 := (frR4 b1).2.1
      rw [adI_idem] at a1
      have hI : adI (idF nl l (k + 1) 0) (v.1 4 tk) L = noteL (3, v.1 4 tk) L := by
        rw [hsn]
        cases idF nl l k 0 with
        | none => show adI (if gN nl k = l then some k else none) _ _ = _; rw [if_pos e]; rfl
        | some i => rfl
      have hE : EC T s nl sl u v1 := by
        obtain ⟨c1, c2⟩ := E
        refine ⟨?_, ?_⟩
        · unfold toks tokOK at *
          rw [(frR4 b1).1, f4, (frR4 b1).2.2, b1.2.2.2]
          exact c1
        · rw [b1.2.1 28 (by omega) (by omega) (by omega), b1.2.1 19 (by omega) (by omega) (by omega), b1.1 8 (by decide) (by decide) (by decide) (by decide) (by decide), b1.1 10 (by decide) (by decide) (by decide) (by decide) (by decide), b1.1 19 (by decide) (by decide) (by decide) (by decide) (by decide), b1.2.2.2]
          exact c2
      obtain ⟨v2, e2, a2, b2, c2, d2, g2, k2, f2⟩ := ih N (k + 1) v1 (by omega) (by omega) hE (by rw [f4, hI]; exact a1) (by rw [b1.2.2.2, hnm])
      rw [f4] at a2
      refine ⟨v2, e2, a2, b2, c2, fun i hi => by rw [d2 i hi, b1.2.2.2], fun q x1 x2 x3 x4 x5 => by rw [g2 q x1 x2 x3 x4 x5, b1.1 q x1 x2 x3 x4 x5], fun k hk => by rw [k2 k hk, b1.2.1 k (by omega) (by omega) (by omega)], frH_t (frH_1 b1) f2⟩
    · rw [if_neg (fun c => e ((name_eqR hk8 hl).mp ((lg_cmp_eq _ _).mp c))), q_lt_eq, nI_1]
      have hI : idF nl l (k + 1) 0 = idF nl l k 0 := by
        rw [hsn]
        cases idF nl l k 0 with
        | none => show (if gN nl k = l then some k else none) = none; rw [if_neg e]
        | some i => rfl
      exact ih N (k + 1) v (by omega) (by omega) E (by rw [hI]; exact hR) hnm
theorem reaches_ok {T s t op tk : Nat} {cs : List Tr} {W : List Nat} {nl : List (List Nat)} {sl : Nat → Nat} {u v : q_W} {L : Nat × Int32} (E : EC T s nl sl u v) (hR : PR s t L cs W op v) (hL : L.1 ≤ 5) (hn : nl.length < 8) {l : List Nat} (hl : okL l) (htk : tk ≤ 500) (hnm : v.2.2 6 tk = lN (r2 l)) : ∃ v', fX11_reaches (nI tk) v = some ((), v') ∧ PR s t (adI (idF nl l nl.length 0) (v.1 4 tk) L) cs W op v' ∧ v'.1 0 28 = nI (nl.length + 1) ∧ v'.2.2 15 nl.length = lN (r2 l) ∧ (∀ i, i ≠ nl.length → v'.2.2 15 i = v.2.2 15 i) ∧ (∀ q, q ≠ 0 → q ≠ 12 → q ≠ 13 → q ≠ 14 → q ≠ 20 → v'.1 q = v.1 q) ∧ v'.1 0 30 = v.1 0 30 ∧ frH s v v' := by
  unfold fX11_reaches fX11_reaches_l2
  obtain ⟨v', e, a, b, c, d, g, k, f⟩ := reaches_lok hL hn hl htk nl.length q_N 0 v (by omega) (Nat.lt_of_lt_of_le hn (Nat.le_of_ble_eq_true rfl)) E hR hnm
  exact ⟨v', e, a, b, c, d, g, k 30 rfl, f⟩
/-- the third of a code is set -/
def setB (i : Nat) (x : Int32) (cs : List Tr) : List Tr := cs.set i ((cs.getD i z3).1, (cs.getD i z3).2.1, x)
theorem setB_len (i : Nat) (x : Int32) (cs : List Tr) : (setB i x cs).length = cs.length := List.length_set
theorem setB_at {i j : Nat} {x : Int32} {cs : List Tr} (hi : i < cs.length) : (setB i x cs).getD j z3 = if i = j then ((cs.getD i z3).1, (cs.getD i z3).2.1, x) else cs.getD j z3 := by
  unfold setB
  rw [List.getD_eq_getElem?_getD (i := j), List.getElem?_set]
  by_cases e : i = j
  · subst e
    rw [if_pos rfl, if_pos hi, if_pos rfl]; rfl
  · rw [if_neg e, if_neg e, ← List.getD_eq_getElem?_getD]
theorem setB_mid {a b : List Tr} {t : Tr} {x : Int32} : setB a.length x (a ++ (t :: b)) = a ++ ((t.1, t.2.1, x) :: b) := by
  unfold setB
  have e : (a ++ (t :: b)).getD a.length z3 = t := by
    rw [List.getD_eq_getElem?_getD, List.getElem?_append_right (Nat.le_refl _), Nat.sub_self]
    rfl
  rw [e, List.set_append_right _ _ (Nat.le_refl _), Nat.sub_self]
  rfl
theorem PR_setB {s t op i : Nat} {x : Int32} {L : Nat × Int32} {cs : List Tr} {W : List Nat} {v : q_W} (h : PR s t L cs W op v) (hl : cs.length ≤ 2000) (hi : i < cs.length) : PR s t L (setB i x cs) W op (q_sI v 14 (2000 * s + i) x) ∧ frR1 s v (q_sI v 14 (2000 * s + i) x) := by
  obtain ⟨h1, h2, h3, h4, h5, h6, h7, h8⟩ := h
  refine ⟨⟨h1, ?_, ?_, ?_, fun g => ?_, ⟨?_, fun j hj => ?_⟩, ⟨?_, h7.2.1, fun j hj => ?_⟩, ?_⟩, ⟨fun q a b c d e => ?_, fun k a b c => ?_, fun j hj => ?_, rfl⟩⟩
  · rw [sI_cell _ _ _ _ _ (by decide), h2]
  · rw [sI_cell _ _ _ _ _ (by decide), h3]
  · rw [sI_cell _ _ _ _ _ (by decide), h4]
  · rw [sI_cell _ _ _ _ _ (by decide), h5 g]
  · rw [sI_cell _ _ _ _ _ (by decide), setB_len, h6.1]
  · rw [setB_len] at hj
    obtain ⟨a, b, c⟩ := h6.2 j hj
    rw [sI_cell _ _ _ _ 12 (by decide), sI_cell _ _ _ _ 13 (by decide), setB_at hi, a, b]
    by_cases e : i = j
    · subst e
      rw [sI_same, if_pos rfl]
      exact ⟨rfl, rfl, rfl⟩
    · rw [sI_k _ _ _ _ _ (by omega), if_neg e, c]
      exact ⟨rfl, rfl, rfl⟩
  · rw [sI_cell _ _ _ _ _ (by decide), h7.1]
  · rw [sI_cell _ _ _ _ _ (by decide), h7.2.2 j hj]
  · rw [sI_cell _ _ _ _ _ (by decide), h8]
  · rw [sI_cell _ _ _ _ _ d]
  · rw [sI_cell _ _ _ _ _ (by decide)]
  · rw [sI_cell _ _ _ _ 12 (by decide), sI_cell _ _ _ _ 13 (by decide), sI_k _ _ _ _ _ (by omega)]
    exact ⟨rfl, rfl, rfl⟩
theorem ends_1 {s t b i n sv : Nat} {L : Nat × Int32} {cs : List Tr} {v : q_W} (hR : PR s t L cs [] 0 v) (hl : cs.length < 1900) (hb8 : b < 8) (hb : v.1 0 30 = nI (b + 1)) (h16 : v.1 16 b = 1) (h17 : v.1 17 b = nI (2000 * s + i)) (hi : i < cs.length) (h18 : v.1 18 b = nI sv) (h28 : v.1 0 28 = nI (n + 1)) : ∃ v', fX11_ends v = some ((), v') ∧ PR s t L (setB i (nI (2000 * s + (cs.length + 1))) (cs ++ [(12, nI sv, nI (2000 * s + (i + 1)))])) [] 0 v' ∧ v'.1 0 30 = nI b ∧ v'.1 0 28 = nI n ∧ (∀ q, q ≠ 0 → q ≠ 12 → q ≠ 13 → q ≠ 14 → q ≠ 20 → v'.1 q = v.1 q) ∧ v'.2 = v.2 ∧ frH s v v' := by
  have hs := hR.1
  have R1 := PR_set (k := 30) hR (nI b) (by omega)
  obtain ⟨v1, e1, a1, b1⟩ := emit_st R1 (by omega) ((12, nI sv, nI (2000 * s + (i + 1))) : Tr)
  have e1 : fX11_emit 12 (nI sv) (nI (2000 * s + i + 1)) (q_sI v 0 30 (nI b)) = some ((), v1) := e1
  have h24 : v1.1 0 24 = nI (2000 * s + (cs.length + 1)) := by rw [a1.2.2.2.2.2.1.1, List.length_append]; rfl
  have hll : (cs ++ [((12, nI sv, nI (2000 * s + (i + 1))) : Tr)]).length = cs.length + 1 := by rw [List.length_append]; rfl
  obtain ⟨a2, b2⟩ := PR_setB (i := i) (x := nI (2000 * s + (cs.length + 1))) a1 (by rw [hll]; omega) (by rw [hll]; omega)
  have h28' : (q_sI v1 14 (2000 * s + i) (nI (2000 * s + (cs.length + 1)))).1 0 28 = nI (n + 1) := by
    rw [sI_cell _ _ _ _ _ (by decide), b1.2.1 28 (by omega) (by omega) (by omega), sI_k _ _ _ _ _ (by decide), h28]
  unfold fX11_ends
  rw [hb, nI_s1, q_lt_eq, sI_same, q_lt_eq, if_pos (q_inb_nI hb8 (by omega)), q_lt_eq, q_lt_eq, if_pos (q_inb_nI hb8 (by omega)), q_lt_eq, q_ix_nI (show b < 2 ^ 31 by omega), sI_cell _ _ _ _ 16 (by decide), sI_cell _ _ _ _ 17 (by decide), h16, if_neg (by decide), if_pos rfl, q_lt_eq, if_pos (q_inb_nI hb8 (by omega)), q_ix_nI (show b < 2 ^ 31 by omega), sI_cell _ _ _ _ 18 (by decide), h18, h17, nI_1, e1, q_b_some, if_pos (q_inb_nI (by omega) (by omega)), q_lt_eq, q_lt_eq, q_ix_nI (by omega), h24, h28', nI_s1]
  refine ⟨_, rfl, PR_set (k := 28) a2 _ (by omega), ?_, sI_same _ _ _ _, fun q x0 x1 x2 x3 x4 => ?_, ?_, ?_⟩
  · rw [sI_k _ _ _ _ _ (by decide), sI_cell _ _ _ _ 0 (by decide), b1.2.1 30 (by omega) (by omega) (by omega), sI_same]
  · rw [sI_cell _ _ _ _ _ x0, sI_cell _ _ _ _ _ x3, b1.1 q x0 x1 x2 x3 x4, sI_cell _ _ _ _ _ x0]
  · exact b1.2.2.2
  · exact frH_t (frH_0 s v 30 _ (by omega)) (frH_t (frH_1 b1) (frH_t (frH_1 b2) (frH_0 s _ 28 _ (by omega))))
