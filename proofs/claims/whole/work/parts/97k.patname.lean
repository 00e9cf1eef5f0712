/-! a pattern's name -/
/-- the class names a pattern -/
theorem n17_st {P t : Nat} {L : Nat × Int32} {ws : List Int32} {u : q_W} {n : Nat} (hC : PC P t L ws u) (h4 : u.1 P 4 = nI n) (hn : n < 8) (x : Int64) : fX5_namePattern_n17 x u = some ((), q_sL u 29 n x) := by
  have hP := hC.1
  unfold fX5_namePattern_n17 fX4_size
  rw [hC.2.1, if_pos (isP_c hP), if_pos (isP_c hP), q_b_some, h4, if_neg (nI_pos (by omega)), if_neg (by rw [show (8 : Int32) = nI 8 from rfl, nI_leI (by omega) (by omega)]; omega), if_pos (q_inb_nI hn (by omega)), q_lt_eq, q_ix_nI (by omega)]
theorem frF_L (P : Nat) (u : q_W) (i : Nat) (x : Int64) : frF1 P u (q_sL u 29 i x) := ⟨fun _ _ _ _ _ _ => rfl, rfl, fun q hq _ => by
  funext k
  show (if q = 29 ∧ k = i then x else u.2.2 q k) = _
  simp [hq]⟩
theorem npC_ok {P T s t : Nat} {pl : List (List Nat)} {pm : Nat → Nat} {L : Nat × Int32} {ws : List Int32} {u v : q_W} (D : DC P s pl pm u v) (hC : PC P t L ws u) (hn : pl.length < 8) {l : List Nat} (hl : okL l) : ∃ u1, fX5_namePattern (lN (q2 l)) u = some ((), q_sL u1 29 pl.length (lN (q2 l))) ∧ PC P t (adI (idF pl l pl.length 0) (u.1 27 t) L) ws u1 ∧ frP1 P u u1 := by
  unfold fX5_namePattern
  rw [patternOf_ok D hl, q_b_some]
  cases h : idF pl l pl.length 0 with
  | none =>
    rw [if_pos (show ixV none < 0 by decide), n17_st hC D.2.2.2.2.1 hn]
    exact ⟨u, rfl, hC, frP1_r P u⟩
  | some i =>
    obtain ⟨_, hi, _⟩ := idF_some _ _ _ h
    obtain ⟨u1, e1, a1, b1⟩ := note_st hC (3, u.1 27 t) (by show 1 ≤ 3 ∧ 3 ≤ 5; omega)
    have e1 : fX5_note 3 (u.1 27 t) u = some ((), u1) := e1
    rw [if_neg (show ¬ ixV (some i) < 0 from nI_pos (n := i) (by omega)), hC.2.2.2.2.1, e1, q_b_some, n17_st a1 (by rw [b1.2.2.1 4 (by decide), D.2.2.2.2.1]) hn]
    exact ⟨u1, rfl, a1, b1⟩
theorem npC_any {P s t : Nat} {pl : List (List Nat)} {pm : Nat → Nat} {L : Nat × Int32} {ws : List Int32} {u v : q_W} (D : DC P s pl pm u v) (hC : PC P t L ws u) (hn : pl.length < 8) (x : Int64) : ∃ u1 L', fX5_namePattern x u = some ((), q_sL u1 29 pl.length x) ∧ PC P t L' ws u1 ∧ frP1 P u u1 := by
  obtain ⟨r, e⟩ := patternOf_any D x
  unfold fX5_namePattern
  rw [e, q_b_some]
  by_cases c : r < 0
  · rw [if_pos c, n17_st hC D.2.2.2.2.1 hn]
    exact ⟨u, L, rfl, hC, frP1_r P u⟩
  · obtain ⟨u1, e1, a1, b1⟩ := note_st hC (3, u.1 23 6) (by show 1 ≤ 3 ∧ 3 ≤ 5; omega)
    have e1 : fX5_note 3 (u.1 23 6) u = some ((), u1) := e1
    rw [if_neg c, e1, q_b_some, n17_st a1 (by rw [b1.2.2.1 4 (by decide), D.2.2.2.2.1]) hn]
    exact ⟨u1, _, rfl, a1, b1⟩
theorem PC_L {P t : Nat} {L : Nat × Int32} {ws : List Int32} {u : q_W} (h : PC P t L ws u) (i : Nat) (x : Int64) : PC P t L ws (q_sL u 29 i x) := h
theorem FC_L {P f : Nat} {p : Int32} {u : q_W} (h : FC P f p u) (i : Nat) (x : Int64) : FC P f p (q_sL u 29 i x) := h
theorem npC_F {P f : Nat} {p : Int32} {u v : q_W} {s : Nat} {pl : List (List Nat)} {pm : Nat → Nat} (D : DC P s pl pm u v) (h : FC P f p u) (x : Int64) : ∃ u', fX5_namePattern x u = some ((), u') ∧ FC P f p u' ∧ frF1 P u u' := by
  have hP := h.1
  have n17 : ∀ w, FC P f p w → w.1 P 4 = nI pl.length → ∃ u', fX5_namePattern_n17 x w = some ((), u') ∧ FC P f p u' ∧ frF1 P w u' := by
    intro w hw h4
    have := D.2.2.2.1
    unfold fX5_namePattern_n17 fX4_size
    rw [hw.2.1, if_pos (isP_c hP), if_pos (isP_c hP), q_b_some, h4, if_neg (nI_pos (by omega))]
    by_cases c : pl.length = 8
    · rw [if_pos (by rw [show (8 : Int32) = nI 8 from rfl, nI_leI (by omega) (by omega)]; omega)]
      exact ⟨w, rfl, hw, frF1_r P w⟩
    · rw [if_neg (by rw [show (8 : Int32) = nI 8 from rfl, nI_leI (by omega) (by omega)]; omega), if_pos (q_inb_nI (by omega) (by omega)), q_lt_eq]
      exact ⟨_, rfl, FC_L hw _ _, frF_L P w _ _⟩
  obtain ⟨r, e⟩ := patternOf_any D x
  unfold fX5_namePattern
  rw [e, q_b_some]
  by_cases c : r < 0
  · rw [if_pos c]
    exact n17 u h D.2.2.2.2.1
  · obtain ⟨u1, e1, a1, b1⟩ := note_F h 3 (u.1 23 6)
    rw [if_neg c, e1, q_b_some]
    obtain ⟨u2, e2, a2, b2⟩ := n17 u1 a1 (by rw [b1.2.2.1 4 (by decide), D.2.2.2.2.1])
    exact ⟨u2, e2, a2, frF1_t (frF1_1 b1) b2⟩
/-- what the reference does behind a pattern's name -/
def pRest (x2 : Int32) (w3 : q_W) : Option (Unit × q_W) :=
    q_b (fX11_is 6 w3) fun r4 w5 =>
    if r4 = 0 then
      fX11_tellPattern_n177 x2 w5
    else
      q_b (fX11_next w5) fun _ w7 =>
      q_b (fX11_tellParameter w7) fun _ w9 =>
      q_b (fX11_is 5 w9) fun r10 w11 =>
      if r10 = 0 then
        fX11_tellPattern_n171 x2 w11
      else
        q_b (fX11_next w11) fun _ w13 =>
        q_b (fX11_tellParameter w13) fun _ w15 =>
        fX11_tellPattern_n171 x2 w15
theorem pnames_lok {P s t tk : Nat} {cs : List Tr} {pl : List (List Nat)} {pm : Nat → Nat} {u : q_W} {L : Nat × Int32} (hL : L.1 ≤ 5) (hn : pl.length < 8) {l : List Nat} (hl : okL l) (htk : tk ≤ 500) : ∀ d N k (v : q_W), k + d = pl.length → d < N → DC P s pl pm u v → PR s t (adI (idF pl l k 0) (v.1 4 tk) L) cs [] 0 v → v.2.2 6 tk = lN (r2 l) → ∃ v', q_it N fX11_tellPattern_h78 (fun _ _ _ _ => none) (nI tk) (nI (8 * s + pl.length)) (nI (8 * s + k)) v = pRest (nI (8 * s + pl.length)) v' ∧ PR s t (adI (idF pl l pl.length 0) (v.1 4 tk) L) cs [] 0 v' ∧ v'.1 0 28 = 0 ∧ v'.2.2 9 (8 * s + pl.length) = lN (r2 l) ∧ (∀ i, i ≠ 8 * s + pl.length → v'.2.2 9 i = v.2.2 9 i) ∧ v'.1 11 (8 * s + pl.length) = nI (2000 * s + cs.length) ∧ (∀ i, i ≠ 8 * s + pl.length → v'.1 11 i = v.1 11 i) ∧ v'.1 8 = v.1 8 ∧ v'.1 10 = v.1 10 ∧ v'.1 3 = v.1 3 ∧ v'.1 4 = v.1 4 ∧ v'.1 5 = v.1 5 ∧ v'.2.2 6 = v.2.2 6 ∧ v'.1 0 19 = v.1 0 19 ∧ frPT s v v' := by
  intro d
  induction d with
  | zero =>
    intro N k v hk hN D hR hnm
    obtain ⟨N, rfl⟩ : ∃ M, N = M + 1 := ⟨N - 1, by omega⟩
    have hk' : k = pl.length := by omega
    subst hk'
    have hs := hR.1
    have ib : q_inb (nI (8 * s + pl.length)) 16 := q_inb_nI (by omega) (by omega)
    have h24 := hR.2.2.2.2.2.1.1
    rw [q_itS, fX11_tellPattern_h78, if_pos (by rw [nI_leI (by omega) (by omega)]; omega), if_pos (show q_inb (nI tk) 503 from q_inb_nI (by omega) (by omega)), if_pos ib, q_lt_eq, if_pos ib, q_lt_eq, q_lt_eq, q_ix_nI (show 8 * s + pl.length < 2 ^ 31 by omega), q_ix_nI (show tk < 2 ^ 31 by omega), hnm]
    refine ⟨_, rfl, ?_, sI_same _ _ _ _, ?_, fun i hi => ?_, ?_, fun i hi => ?_, ?_, ?_, ?_, ?_, ?_, ?_, ?_, ?_⟩
    · refine PR_set ?_ 28 _ (by omega)
      obtain ⟨h1, h2, h3, h4, h5, h6, h7, h8⟩ := hR
      exact ⟨h1, by rw [sI_cell _ _ _ _ 0 (by decide)]; exact h2, by rw [sI_cell _ _ _ _ 0 (by decide)]; exact h3, by rw [sI_cell _ _ _ _ 0 (by decide)]; exact h4, fun g => by rw [sI_cell _ _ _ _ 0 (by decide)]; exact h5 g, ⟨by rw [sI_cell _ _ _ _ 0 (by decide)]; exact h6.1, fun j hj => by rw [sI_cell _ _ _ _ 12 (by decide), sI_cell _ _ _ _ 13 (by decide), sI_cell _ _ _ _ 14 (by decide)]; exact h6.2 j hj⟩, ⟨by rw [sI_cell _ _ _ _ 0 (by decide)]; exact h7.1, h7.2.1, fun j hj => by rw [sI_cell _ _ _ _ 20 (by decide)]; exact h7.2.2 j hj⟩, by rw [sI_cell _ _ _ _ 0 (by decide)]; exact h8⟩
    · show (if 9 = 9 ∧ 8 * s + pl.length = 8 * s + pl.length then lN (r2 l) else _) = _
      simp
    · show (if 9 = 9 ∧ i = 8 * s + pl.length then lN (r2 l) else v.2.2 9 i) = _
      simp [hi]
    · rw [sI_cell _ _ _ _ 11 (by decide), sI_same]; exact h24
    · rw [sI_cell _ _ _ _ 11 (by decide), sI_k _ _ _ _ _ hi]; rfl
    · rw [sI_cell _ _ _ _ 8 (by decide), sI_cell _ _ _ _ 8 (by decide)]; rfl
    · rw [sI_cell _ _ _ _ 10 (by decide), sI_cell _ _ _ _ 10 (by decide)]; rfl
    · rw [sI_cell _ _ _ _ 3 (by decide), sI_cell _ _ _ _ 3 (by decide)]; rfl
    · rw [sI_cell _ _ _ _ 4 (by decide), sI_cell _ _ _ _ 4 (by decide)]; rfl
    · rw [sI_cell _ _ _ _ 5 (by decide), sI_cell _ _ _ _ 5 (by decide)]; rfl
    · funext i
      show (if 6 = 9 ∧ i = 8 * s + pl.length then lN (r2 l) else v.2.2 6 i) = _
      simp
    · rw [sI_k _ _ _ _ _ (by decide), sI_cell _ _ _ _ 0 (by decide)]; rfl
    · refine frPT_t (b := q_sL v 9 (8 * s + pl.length) (lN (r2 l))) ⟨fun _ _ _ _ _ _ _ _ _ _ _ _ _ => rfl, fun _ _ _ _ _ _ _ _ => rfl, fun _ _ => ⟨rfl, rfl, rfl⟩, fun _ _ => rfl, fun i hi => ⟨rfl, rfl, ?_⟩, rfl, fun q hq _ => ?_⟩ (frPT_t (frPT_q s _ 11 _ _ (Or.inr ⟨Or.inr rfl, by omega, by omega⟩)) (frPT_H (frH_0 s _ 28 _ (by omega))))
      · show (if 9 = 9 ∧ i = 8 * s + pl.length then _ else v.2.2 9 i) = _
        rw [if_neg (by omega)]
      · funext i
        show (if q = 9 ∧ i = 8 * s + pl.length then _ else v.2.2 q i) = _
        simp [hq]
  | succ d ih =>
    intro N k v hk hN D hR hnm
    obtain ⟨N, rfl⟩ : ∃ M, N = M + 1 := ⟨N - 1, by omega⟩
    have hs := hR.1
    obtain ⟨hk8, _, hb, _⟩ := D.2.2.2.2.2.2.2 k (by omega)
    rw [q_itS, fX11_tellPattern_h78, if_neg (by rw [nI_leI (by omega) (by omega)]; omega), if_pos (q_inb_nI (show 8 * s + k < 16 by omega) (by omega)), if_pos (show q_inb (nI tk) 503 from q_inb_nI (by omega) (by omega)), q_ix_nI (show 8 * s + k < 2 ^ 31 by omega), q_ix_nI (show tk < 2 ^ 31 by omega), hb, hnm]
    unfold fX11_tellPattern_n105
    have hsn := idF_snoc pl l k 0
    rw [Nat.zero_add] at hsn
    by_cases e : gN pl k = l
    · obtain ⟨v1, e1, a1, b1⟩ := wrong_st hR (adI_5 hL) htk 3 (by omega)
      have e1 : fX11_wrong 3 (nI tk) v = some ((), v1) := e1
      rw [if_pos ((lg_cmp_eq _ _).mpr (by rw [e])), e1, q_b_some, q_lt_eq, nI_1]
      have f4 := (frR4 b1).2.1
      rw [adI_idem] at a1
      have hI : adI (idF pl l (k + 1) 0) (v.1 4 tk) L = noteL (3, v.1 4 tk) L := by
        rw [hsn]
        cases idF pl l k 0 with
        | none => show adI (if gN pl k = l then some k else none) _ _ = _; rw [if_pos e]; rfl
        | some i => rfl
      obtain ⟨v2, e2, a2, y1, y2, y3, y4, y5, y6, y7, y8, y9, y10, y11, y12, y13⟩ := ih N (k + 1) v1 (by omega) (by omega) (DC_fr D (frP1_r P u) b1) (by rw [f4, hI]; exact a1) (by rw [b1.2.2.2, hnm])
      rw [f4] at a2
      refine ⟨v2, e2, a2, y1, y2, fun i hi => by rw [y3 i hi, b1.2.2.2], y4, fun i hi => by rw [y5 i hi, b1.1 11 (by decide) (by decide) (by decide) (by decide) (by decide)], by rw [y6, b1.1 8 (by decide) (by decide) (by decide) (by decide) (by decide)], by rw [y7, b1.1 10 (by decide) (by decide) (by decide) (by decide) (by decide)], by rw [y8, (frR4 b1).1], by rw [y9, f4], by rw [y10, (frR4 b1).2.2], by rw [y11, b1.2.2.2], by rw [y12, b1.2.1 19 (by omega) (by omega) (by omega)], frPT_t (frPT_1 b1) y13⟩
    · rw [if_neg (fun c => e ((name_eqR hk8 hl).mp ((lg_cmp_eq _ _).mp c))), q_lt_eq, nI_1]
      have hI : idF pl l (k + 1) 0 = idF pl l k 0 := by
        rw [hsn]
        cases idF pl l k 0 with
        | none => show (if gN pl k = l then some k else none) = none; rw [if_neg e]
        | some i => rfl
      exact ih N (k + 1) v (by omega) (by omega) D (by rw [hI]; exact hR) hnm
