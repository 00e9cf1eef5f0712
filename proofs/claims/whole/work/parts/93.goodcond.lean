/-! a condition's code is good -/
def bmk (r : Option Nat × Nat × (Nat → Nat)) : Option Nat × Nat × (Nat → Nat) := (some 7, r.2)
def anC (r : Option Nat × Nat × (Nat → Nat)) (s o n : Nat) (c5 c6 : List Nat) (rl : List Rl) (sk fR tR : Int32) : List AI := match rl with
  | [] => []
  | q :: rl => annE 0 r q.1 ++ ((([nI (q.2.1 + 10)], 14, nI q.2.1, 0), (2, r)) ::
    (if q.2.2 = 2 then (([14, nI (cnO (o + (wds q.1).length + 3) rl)], 15, gfR s (n + q.1.length + 2) rl fR, hdC s c5), (1, bmk r)) :: anC r s (o + (wds q.1).length + 3) (n + q.1.length + 2) ((n + q.1.length + 1) :: c5) c6 rl sk fR tR
    else if q.2.2 = 1 then (([15, nI (cnN (o + (wds q.1).length + 3) rl)], 16, tR, hdC s c6), (1, bmk r)) :: anC r s (o + (wds q.1).length + 3) (n + q.1.length + 2) [] ((n + q.1.length + 1) :: c6) rl sk fR tR
    else [(([16, sk], 15, fR, hdC s c5), (1, bmk r))]))
theorem anC_cons (r : Option Nat × Nat × (Nat → Nat)) (s o n : Nat) (c5 c6 : List Nat) (q : Rl) (rl : List Rl) (sk fR tR : Int32) : anC r s o n c5 c6 (q :: rl) sk fR tR = annE 0 r q.1 ++ ((([nI (q.2.1 + 10)], 14, nI q.2.1, 0), (2, r)) ::
    (if q.2.2 = 2 then (([14, nI (cnO (o + (wds q.1).length + 3) rl)], 15, gfR s (n + q.1.length + 2) rl fR, hdC s c5), (1, bmk r)) :: anC r s (o + (wds q.1).length + 3) (n + q.1.length + 2) ((n + q.1.length + 1) :: c5) c6 rl sk fR tR
    else if q.2.2 = 1 then (([15, nI (cnN (o + (wds q.1).length + 3) rl)], 16, tR, hdC s c6), (1, bmk r)) :: anC r s (o + (wds q.1).length + 3) (n + q.1.length + 2) [] ((n + q.1.length + 1) :: c6) rl sk fR tR
    else [(([16, sk], 15, fR, hdC s c5), (1, bmk r))])) := rfl
theorem anC_map (r : Option Nat × Nat × (Nat → Nat)) (s : Nat) (sk fR tR : Int32) : ∀ (rl : List Rl) (o n : Nat) (c5 c6 : List Nat), (anC r s o n c5 c6 rl sk fR tR).map Prod.fst = cI s o n c5 c6 rl sk fR tR := by
  intro rl
  induction rl with
  | nil => intro o n c5 c6; rfl
  | cons q rl ih =>
    intro o n c5 c6
    rw [anC_cons, cI_cons, List.map_append, annE_map, List.map_cons]
    by_cases h2 : q.2.2 = 2
    · rw [if_pos h2, if_pos h2, List.map_cons, ih]
    · rw [if_neg h2, if_neg h2]
      by_cases h1 : q.2.2 = 1
      · rw [if_pos h1, if_pos h1, List.map_cons, ih]
      · rw [if_neg h1, if_neg h1]
        rfl
theorem look_at {W X Z : List AI} {x : AI} (e : SS) (h : W = X ++ (x :: Z)) : itA W X.length = x.1 ∧ ssA W e X.length = x.2 ∧ wo W X.length = (wds (X.map Prod.fst)).length ∧ X.length < W.length := by
  subst h
  have a := itA_mid (X := X) (Y := [x]) (Z := Z) (i := 0) (by show 0 < 1; omega)
  have b := ssA_mid (X := X) (Y := [x]) (Z := Z) (e := e) (e' := e) (i := 0) (by show 0 < 1; omega)
  have d := wo_mid (X := X) (Y := [x]) (Z := Z) (i := 0) (Nat.zero_le _)
  refine ⟨a, b, d, ?_⟩
  rw [List.length_append]
  show X.length < X.length + (Z.length + 1)
  omega
/-- the list up to behind a relation's connective -/
def nxX (r : Option Nat × Nat × (Nat → Nat)) (X : List AI) (q : Rl) (k : AI) : List AI := X ++ (annE 0 r q.1 ++ [(([nI (q.2.1 + 10)], 14, nI q.2.1, 0), (2, r)), k])
theorem nxX_len (r : Option Nat × Nat × (Nat → Nat)) (X : List AI) (q : Rl) (k : AI) : (nxX r X q k).length = X.length + q.1.length + 2 := by
  unfold nxX
  rw [List.length_append, List.length_append, annE_len]
  rfl
theorem nxX_wds (r : Option Nat × Nat × (Nat → Nat)) (X : List AI) (q : Rl) (k : AI) : (wds ((nxX r X q k).map Prod.fst)).length = (wds (X.map Prod.fst)).length + (wds q.1).length + 1 + k.1.1.length := by
  unfold nxX
  rw [List.map_append, List.map_append, annE_map, wds_app, wds_app, List.length_append, List.length_append]
  show _ + (_ + (wds [(([nI (q.2.1 + 10)], 14, nI q.2.1, 0) : It), k.1]).length) = _
  rw [wds_cons, wds_one, List.length_append]
  show _ + (_ + (1 + _)) = _
  omega
theorem nxX_app (r : Option Nat × Nat × (Nat → Nat)) (X : List AI) (q : Rl) (k : AI) (C : List AI) : nxX r X q k ++ C = X ++ (annE 0 r q.1 ++ ((([nI (q.2.1 + 10)], 14, nI q.2.1, 0), (2, r)) :: (k :: C))) := by
  unfold nxX
  simp only [List.append_assoc, List.cons_append, List.nil_append]
/-- the connective of the first relation -/
theorem anC_first {r : Option Nat × Nat × (Nat → Nat)} {s o n : Nat} {c5 c6 : List Nat} {q : Rl} {rl : List Rl} {sk fR tR : Int32} {W X Z : List AI} (e : SS) (h : W = X ++ (anC r s o n c5 c6 (q :: rl) sk fR tR ++ Z)) (hk : okRl (q :: rl)) : ssA W e (X.length + q.1.length + 1) = (1, bmk r) ∧ wo W (X.length + q.1.length + 1) = (wds (X.map Prod.fst)).length + (wds q.1).length + 1 ∧ X.length + q.1.length + 1 < W.length ∧ ((kdI (itA W (X.length + q.1.length + 1)) = 14 ∧ q.2.2 = 2 ∧ (itA W (X.length + q.1.length + 1)).2.2.1 = gfR s (n + q.1.length + 2) rl fR) ∨ (kdI (itA W (X.length + q.1.length + 1)) = 15 ∧ q.2.2 = 1 ∧ (itA W (X.length + q.1.length + 1)).2.2.1 = tR) ∨ (kdI (itA W (X.length + q.1.length + 1)) = 16 ∧ q.2.2 = 0 ∧ (itA W (X.length + q.1.length + 1)).2.2.1 = fR)) := by
  rw [anC_cons] at h
  have key : ∀ (k : AI) (C : List AI), W = X ++ ((annE 0 r q.1 ++ ((([nI (q.2.1 + 10)], 14, nI q.2.1, 0), (2, r)) :: (k :: C))) ++ Z) → itA W (X.length + q.1.length + 1) = k.1 ∧ ssA W e (X.length + q.1.length + 1) = k.2 ∧ wo W (X.length + q.1.length + 1) = (wds (X.map Prod.fst)).length + (wds q.1).length + 1 ∧ X.length + q.1.length + 1 < W.length := by
    intro k C hW
    have := look_at (W := W) (X := X ++ (annE 0 r q.1 ++ [(([nI (q.2.1 + 10)], 14, nI q.2.1, 0), (2, r))])) (x := k) (Z := C ++ Z) e (by rw [hW]; simp only [List.append_assoc, List.cons_append, List.nil_append])
    have hl : (X ++ (annE 0 r q.1 ++ [((([nI (q.2.1 + 10)], 14, nI q.2.1, 0), (2, r)) : AI)])).length = X.length + q.1.length + 1 := by rw [List.length_append, List.length_append, annE_len]; rfl
    have hw : (wds ((X ++ (annE 0 r q.1 ++ [((([nI (q.2.1 + 10)], 14, nI q.2.1, 0), (2, r)) : AI)])).map Prod.fst)).length = (wds (X.map Prod.fst)).length + (wds q.1).length + 1 := by
      rw [List.map_append, List.map_append, annE_map, wds_app, wds_app, List.length_append, List.length_append]
      show _ + (_ + 1) = _
      omega
    rw [hl, hw] at this
    exact this
  obtain ⟨_, hop⟩ := hk
  by_cases h2 : q.2.2 = 2
  · rw [if_pos h2] at h
    obtain ⟨a, b, d, g⟩ := key _ _ h
    rw [a, b]
    exact ⟨rfl, d, g, Or.inl ⟨rfl, h2, rfl⟩⟩
  · rw [if_neg h2] at h
    by_cases h1 : q.2.2 = 1
    · rw [if_pos h1] at h
      obtain ⟨a, b, d, g⟩ := key _ _ h
      rw [a, b]
      exact ⟨rfl, d, g, Or.inr (Or.inl ⟨rfl, h1, rfl⟩)⟩
    · rw [if_neg h1] at h
      obtain ⟨a, b, d, g⟩ := key _ _ h
      rw [a, b]
      refine ⟨rfl, d, g, Or.inr (Or.inr ⟨rfl, ?_, rfl⟩)⟩
      rcases hop with ⟨h, _⟩ | ⟨h, _⟩ <;> omega
/-- it begins with an empty pile -/
theorem anC_fst {r : Option Nat × Nat × (Nat → Nat)} {s o n : Nat} {c5 c6 : List Nat} {rl : List Rl} {sk fR tR : Int32} {W X Z : List AI} (e : SS) (h : W = X ++ (anC r s o n c5 c6 rl sk fR tR ++ Z)) (hk : okRl rl) (hh : ∀ q, q ∈ rl → HX q.1 2) : ssA W e X.length = (0, r) := by
  cases rl with
  | nil => exact absurd hk id
  | cons q rl =>
    rw [anC_cons] at h
    have a0 := annE_0 (hh q List.mem_cons_self 0 (by omega) : HG 40 q.1 0 (0 + 2)) (r := r)
    generalize ((([nI (q.2.1 + 10)], 14, nI q.2.1, 0), (2, r)) :: _ : List AI) = C at h
    cases hq : q.1 with
    | nil =>
      rw [hq] at a0
      exact absurd (congrArg Prod.fst a0) (by show ¬ (2 : Nat) = 0; decide)
    | cons y ys =>
      rw [hq] at h
      have := look_at e (show W = X ++ ((y, (0, r)) :: (annE (0 - arI y + 1) r ys ++ C ++ Z)) from by rw [h]; rfl)
      rw [this.2.1]
theorem anC_len {r : Option Nat × Nat × (Nat → Nat)} {s o n : Nat} {c5 c6 : List Nat} {rl : List Rl} {sk fR tR : Int32} : (anC r s o n c5 c6 rl sk fR tR).length = (cI s o n c5 c6 rl sk fR tR).length := by
  rw [← anC_map r s sk fR tR rl o n c5 c6, List.length_map]
/-- the first connective that is no and -/
theorem anC_non {r : Option Nat × Nat × (Nat → Nat)} {s oB cB : Nat} {sk fR tR : Int32} {W Z : List AI} (e : SS) : ∀ (rl : List Rl) (X : List AI) (c5 c6 : List Nat) (jE : Nat), W = X ++ (anC r s (oB + (wds (X.map Prod.fst)).length) (cB + X.length) c5 c6 rl sk fR tR ++ Z) → okRl rl → jE = X.length + (anC r s (oB + (wds (X.map Prod.fst)).length) (cB + X.length) c5 c6 rl sk fR tR).length → tR = tgR s cB jE → ∃ j, X.length ≤ j ∧ j < jE ∧ j < W.length ∧ ssA W e j = (1, bmk r) ∧ oB + wo W j = cnN (oB + (wds (X.map Prod.fst)).length) rl ∧ (kdI (itA W j) = 15 ∧ tR = (itA W j).2.2.1 ∨ kdI (itA W j) = 16 ∧ tR = tgR s cB (j + 1)) := by
  intro rl
  induction rl with
  | nil => intro X c5 c6 jE _ h; exact absurd h id
  | cons q rl ih =>
    intro X c5 c6 jE hW hk hj ht
    have F := anC_first e hW hk
    have hL : (anC r s (oB + (wds (X.map Prod.fst)).length) (cB + X.length) c5 c6 (q :: rl) sk fR tR).length = q.1.length + 1 + (if q.2.2 = 2 then (([14, nI (cnO (oB + (wds (X.map Prod.fst)).length + (wds q.1).length + 3) rl)], 15, gfR s (cB + X.length + q.1.length + 2) rl fR, hdC s c5), ((1, bmk r) : SS)) :: anC r s (oB + (wds (X.map Prod.fst)).length + (wds q.1).length + 3) (cB + X.length + q.1.length + 2) ((cB + X.length + q.1.length + 1) :: c5) c6 rl sk fR tR
    else if q.2.2 = 1 then (([15, nI (cnN (oB + (wds (X.map Prod.fst)).length + (wds q.1).length + 3) rl)], 16, tR, hdC s c6), (1, bmk r)) :: anC r s (oB + (wds (X.map Prod.fst)).length + (wds q.1).length + 3) (cB + X.length + q.1.length + 2) [] ((cB + X.length + q.1.length + 1) :: c6) rl sk fR tR
    else [(([16, sk], 15, fR, hdC s c5), (1, bmk r))]).length := by
      rw [anC_cons, List.length_append, annE_len, List.length_cons]
      omega
    rw [cnN_cons]
    obtain ⟨f1, f2, f3, f4⟩ := F
    rcases f4 with ⟨g1, g2, g3⟩ | ⟨g1, g2, g3⟩ | ⟨g1, g2, g3⟩
    · rw [if_pos g2] at hL
      rw [if_pos g2]
      rw [anC_cons, if_pos g2] at hW
      generalize hkk : ((([14, nI (cnO (oB + (wds (X.map Prod.fst)).length + (wds q.1).length + 3) rl)], 15, gfR s (cB + X.length + q.1.length + 2) rl fR, hdC s c5), (1, bmk r)) : AI) = k at *
      have hkl : k.1.1.length = 2 := by rw [← hkk]; rfl
      have x1 := nxX_len r X q k
      have x2 := nxX_wds r X q k
      rw [hkl] at x2
      have o1 : oB + (wds (X.map Prod.fst)).length + (wds q.1).length + 3 = oB + (wds ((nxX r X q k).map Prod.fst)).length := by rw [x2]; omega
      have o2 : cB + X.length + q.1.length + 2 = cB + (nxX r X q k).length := by rw [x1]; omega
      rw [o1, o2] at hW hL
      rw [List.length_cons] at hL
      rw [o1]
      obtain ⟨j, i1, i2, i3, i4, i5, i6⟩ := ih (nxX r X q k) ((cB + X.length + q.1.length + 1) :: c5) c6 jE (by rw [nxX_app, hW]; simp only [List.append_assoc, List.cons_append]) (by
        obtain ⟨_, hop⟩ := hk
        rcases hop with ⟨h, _⟩ | ⟨_, h⟩
        · omega
        · exact h) (by rw [hj, hL, x1]; omega) ht
      exact ⟨j, by omega, i2, i3, i4, i5, i6⟩
    · rw [if_neg (show ¬ q.2.2 = 2 by omega)]
      rw [if_neg (show ¬ q.2.2 = 2 by omega), if_pos g2, List.length_cons] at hL
      exact ⟨X.length + q.1.length + 1, by omega, by omega, f3, f1, by rw [f2]; omega, Or.inl ⟨g1, g3.symm⟩⟩
    · rw [if_neg (show ¬ q.2.2 = 2 by omega)]
      rw [if_neg (show ¬ q.2.2 = 2 by omega), if_neg (show ¬ q.2.2 = 1 by omega)] at hL
      have hL : _ = q.1.length + 1 + 1 := hL
      exact ⟨X.length + q.1.length + 1, by omega, by omega, f3, f1, by rw [f2]; omega, Or.inr ⟨g1, by rw [ht, hj, hL, ← Nat.add_assoc, ← Nat.add_assoc]⟩⟩
theorem anC_GP {r : Option Nat × Nat × (Nat → Nat)} {s oB cB jF p : Nat} {pm : Nat → Nat} {sk fR tR : Int32} {W Z : List AI} (e : SS) (hjF : jF ≤ W.length) (hsk : sk = tgC W oB jF) (hfR : fR = tgR s cB jF) (hr : r.1 = some 8) (hsF : ssA W e jF = (0, none, r.2)) : ∀ (rl : List Rl) (X : List AI) (c5 c6 : List Nat) (jE : Nat), W = X ++ (anC r s (oB + (wds (X.map Prod.fst)).length) (cB + X.length) c5 c6 rl sk fR tR ++ Z) → okRl rl → jE = X.length + (anC r s (oB + (wds (X.map Prod.fst)).length) (cB + X.length) c5 c6 rl sk fR tR).length → tR = tgR s cB jE → jE ≤ jF → ssA W e jE = (0, none, r.2) → (∀ q, q ∈ rl → HX q.1 2) → (∀ q, q ∈ rl → ∀ x, x ∈ q.1 → gI r.2.1 r.2.2 x) → GP W e oB cB s pm p X.length jE := by
  intro rl
  induction rl with
  | nil => intro X c5 c6 jE _ h; exact absurd h id
  | cons q rl ih =>
    intro X c5 c6 jE hW hk hj ht hjj hsE hh hg
    obtain ⟨f1, f2, f3, f4⟩ := anC_first e hW hk
    have hW0 := hW
    rw [anC_cons] at hW
    obtain ⟨hk4, hop⟩ := hk
    -- the relation
    have key : ∀ (k : AI) (C : List AI), W = X ++ ((annE 0 r q.1 ++ ((([nI (q.2.1 + 10)], 14, nI q.2.1, 0), (2, r)) :: (k :: C))) ++ Z) → k.2 = (1, bmk r) → GP W e oB cB s pm p X.length (X.length + q.1.length + 1) ∧ itA W (X.length + q.1.length + 1) = k.1 := by
      intro k C hW hk2
      have l1 := look_at (W := W) (X := X ++ annE 0 r q.1) (x := (([nI (q.2.1 + 10)], 14, nI q.2.1, 0), (2, r))) (Z := k :: (C ++ Z)) e (by rw [hW]; simp only [List.append_assoc, List.cons_append])
      have l2 := look_at (W := W) (X := X ++ (annE 0 r q.1 ++ [(([nI (q.2.1 + 10)], 14, nI q.2.1, 0), (2, r))])) (x := k) (Z := C ++ Z) e (by rw [hW]; simp only [List.append_assoc, List.cons_append, List.nil_append])
      have h1 : (X ++ annE 0 r q.1).length = X.length + q.1.length := by rw [List.length_append, annE_len]
      have h2 : (X ++ (annE 0 r q.1 ++ [((([nI (q.2.1 + 10)], 14, nI q.2.1, 0), (2, r)) : AI)])).length = X.length + q.1.length + 1 := by rw [List.length_append, List.length_append, annE_len]; rfl
      rw [h1] at l1
      rw [h2] at l2
      refine ⟨?_, l2.1⟩
      have hE : GD (annE 0 r q.1) (2, r) (oB + (wds (X.map Prod.fst)).length) (cB + X.length) s pm p := annE_GD q.1 0 _ _ (hh q List.mem_cons_self 0 (by omega)) (Or.inl hr) (hg q List.mem_cons_self)
      have hWe : W = X ++ (annE 0 r q.1 ++ ((([nI (q.2.1 + 10)], 14, nI q.2.1, 0), (2, r)) :: (k :: C) ++ Z)) := by rw [hW]; simp only [List.append_assoc]
      have g1 : GP W e oB cB s pm p X.length (X.length + (annE 0 r q.1).length) := by
        have hs : ssA W e (X.length + (annE 0 r q.1).length) = (2, r) := by rw [annE_len]; exact l1.2.1
        rw [hWe] at hs ⊢
        exact GP_emb hs hE
      rw [annE_len] at g1
      refine GP_join g1 (GP_one (Or.inr (Or.inl ⟨q.2.1, hk4, l1.1, ?_, ?_, ?_⟩)))
      · rw [l1.2.1]
      · rw [l1.2.1]; exact hr
      · rw [l1.2.1, f1]; rfl
    rcases f4 with ⟨g1, g2, g3⟩ | ⟨g1, g2, g3⟩ | ⟨g1, g2, g3⟩
    · -- and
      rw [if_pos g2] at hW
      have hrl : okRl rl := by rcases hop with ⟨h, _⟩ | ⟨_, h⟩; omega; exact h
      obtain ⟨k1, k2⟩ := key _ _ hW rfl
      have hL := hj
      rw [anC_cons, if_pos g2, List.length_append, annE_len, List.length_cons, List.length_cons] at hL
      generalize hkk : ((([14, nI (cnO (oB + (wds (X.map Prod.fst)).length + (wds q.1).length + 3) rl)], 15, gfR s (cB + X.length + q.1.length + 2) rl fR, hdC s c5), (1, bmk r)) : AI) = k at *
      have hkl : k.1.1.length = 2 := by rw [← hkk]; rfl
      have x1 := nxX_len r X q k
      have x2 := nxX_wds r X q k
      rw [hkl] at x2
      have o1 : oB + (wds (X.map Prod.fst)).length + (wds q.1).length + 3 = oB + (wds ((nxX r X q k).map Prod.fst)).length := by rw [x2]; omega
      have o2 : cB + X.length + q.1.length + 2 = cB + (nxX r X q k).length := by rw [x1]; omega
      rw [o1, o2] at hW hL
      have hW2 : W = nxX r X q k ++ (anC r s (oB + (wds ((nxX r X q k).map Prod.fst)).length) (cB + (nxX r X q k).length) ((cB + X.length + q.1.length + 1) :: c5) c6 rl sk fR tR ++ Z) := by rw [nxX_app, hW]; simp only [List.append_assoc, List.cons_append]
      have I := ih (nxX r X q k) _ c6 jE hW2 hrl (by rw [hL, x1]; omega) ht hjj hsE (fun y hy => hh y (List.mem_cons_of_mem _ hy)) (fun y hy => hg y (List.mem_cons_of_mem _ hy))
      rw [x1] at I
      refine GP_join k1 (GP_join (GP_one (Or.inr (Or.inr (Or.inl ⟨by rw [f1], by rw [f1]; rfl, ?_, ?_⟩)))) I)
      · rw [f1, ← x1]
        show _ = (0, some 8, r.2)
        rw [← hr]
        exact anC_fst e hW2 hrl (fun y hy => hh y (List.mem_cons_of_mem _ hy))
      · cases rl with
        | nil => exact absurd hrl id
        | cons q' rl =>
          obtain ⟨m1, m2, m3, m4⟩ := anC_first e hW2 hrl
          refine ⟨(nxX r X q k).length + q'.1.length + 1, hdC s c5, gfR s (cB + X.length + q.1.length + 2) (q' :: rl) fR, by rw [x1]; omega, m3, ?_, by rw [m1, f1], ?_⟩
          · have hk1 : k.1 = ([14, nI (cnO (oB + (wds (X.map Prod.fst)).length + (wds q.1).length + 3) (q' :: rl))], 15, gfR s (cB + X.length + q.1.length + 2) (q' :: rl) fR, hdC s c5) := by rw [← hkk]
            rw [k2, hk1]
            have : tgC W oB ((nxX r X q k).length + q'.1.length + 1) = nI (cnO (oB + (wds (X.map Prod.fst)).length + (wds q.1).length + 3) (q' :: rl)) := by
              unfold tgC
              rw [m2, o1]
              show _ = nI (oB + (wds ((nxX r X q k).map Prod.fst)).length + (wds q'.1).length + 1)
              rw [← Nat.add_assoc, ← Nat.add_assoc]
            rw [this]
          · rw [gfR_cons]
            rcases m4 with ⟨z1, z2, z3⟩ | ⟨z1, z2, z3⟩ | ⟨z1, z2, z3⟩
            · rw [if_pos z2]
              refine Or.inl ⟨Or.inl z1, ?_⟩
              rw [z3, o2]
            · rw [if_neg (show ¬ q'.2.2 = 2 by omega), if_pos z2]
              refine Or.inr ⟨z1, ?_⟩
              unfold tgR
              rw [x1]
              congr 1
              omega
            · rw [if_neg (show ¬ q'.2.2 = 2 by omega), if_neg (show ¬ q'.2.2 = 1 by omega)]
              exact Or.inl ⟨Or.inr z1, z3.symm⟩
    · -- or
      have n2 : ¬ q.2.2 = 2 := by omega
      rw [if_neg n2, if_pos g2] at hW
      have hrl : okRl rl := by rcases hop with ⟨h, _⟩ | ⟨_, h⟩; omega; exact h
      obtain ⟨k1, k2⟩ := key _ _ hW rfl
      have hL := hj
      rw [anC_cons, if_neg n2, if_pos g2, List.length_append, annE_len, List.length_cons, List.length_cons] at hL
      generalize hkk : ((([15, nI (cnN (oB + (wds (X.map Prod.fst)).length + (wds q.1).length + 3) rl)], 16, tR, hdC s c6), (1, bmk r)) : AI) = k at *
      have hkl : k.1.1.length = 2 := by rw [← hkk]; rfl
      have x1 := nxX_len r X q k
      have x2 := nxX_wds r X q k
      rw [hkl] at x2
      have o1 : oB + (wds (X.map Prod.fst)).length + (wds q.1).length + 3 = oB + (wds ((nxX r X q k).map Prod.fst)).length := by rw [x2]; omega
      have o2 : cB + X.length + q.1.length + 2 = cB + (nxX r X q k).length := by rw [x1]; omega
      rw [o1, o2] at hW hL
      have hW2 : W = nxX r X q k ++ (anC r s (oB + (wds ((nxX r X q k).map Prod.fst)).length) (cB + (nxX r X q k).length) [] ((cB + X.length + q.1.length + 1) :: c6) rl sk fR tR ++ Z) := by rw [nxX_app, hW]; simp only [List.append_assoc, List.cons_append]
      have hjE : jE = (nxX r X q k).length + (anC r s (oB + (wds ((nxX r X q k).map Prod.fst)).length) (cB + (nxX r X q k).length) [] ((cB + X.length + q.1.length + 1) :: c6) rl sk fR tR).length := by rw [hL, x1]; omega
      have I := ih (nxX r X q k) _ _ jE hW2 hrl hjE ht hjj hsE (fun y hy => hh y (List.mem_cons_of_mem _ hy)) (fun y hy => hg y (List.mem_cons_of_mem _ hy))
      rw [x1] at I
      refine GP_join k1 (GP_join (GP_one (Or.inr (Or.inr (Or.inr (Or.inl ⟨by rw [f1], by rw [f1]; rfl, ?_, ?_⟩))))) I)
      · rw [f1, ← x1]
        show _ = (0, some 8, r.2)
        rw [← hr]
        exact anC_fst e hW2 hrl (fun y hy => hh y (List.mem_cons_of_mem _ hy))
      · obtain ⟨j, i1, i2, i3, i4, i5, i6⟩ := anC_non e rl (nxX r X q k) [] _ jE hW2 hrl hjE ht
        have hk1 : k.1 = ([15, nI (cnN (oB + (wds (X.map Prod.fst)).length + (wds q.1).length + 3) rl)], 16, tR, hdC s c6) := by rw [← hkk]
        refine ⟨j, hdC s c6, tR, by omega, i3, ?_, by rw [i4, f1], i6⟩
        rw [k2, hk1]
        unfold tgC
        rw [i5, o1]
    · -- the last
      rw [if_neg (show ¬ q.2.2 = 2 by omega), if_neg (show ¬ q.2.2 = 1 by omega)] at hW
      obtain ⟨k1, k2⟩ := key _ _ hW rfl
      have hL := hj
      rw [anC_cons, if_neg (show ¬ q.2.2 = 2 by omega), if_neg (show ¬ q.2.2 = 1 by omega), List.length_append, annE_len] at hL
      have hL : jE = X.length + (q.1.length + 2) := hL
      have hE : jE = X.length + q.1.length + 1 + 1 := by omega
      rw [hE] at hsE hjj ⊢
      refine GP_join k1 (GP_one (Or.inr (Or.inr (Or.inr (Or.inr (Or.inl ⟨by rw [f1], by rw [f1]; rfl, by rw [hsE, f1]; rfl, jF, hdC s c5, by omega, hjF, ?_, by rw [hsF, f1]; rfl⟩))))))
      rw [k2, hsk, hfR]
