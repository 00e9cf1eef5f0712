/-! deeds are good code -/
theorem ssA_R {X Y : List AI} {e : SS} (i : Nat) : ssA (X ++ Y) e (X.length + i) = ssA Y e i := by
  unfold ssA
  rw [List.map_append, ← List.length_map (f := Prod.snd) (as := X), List.getD_eq_getElem?_getD, List.getElem?_append_right (by omega), ← List.getD_eq_getElem?_getD, show (List.map Prod.snd X).length + i - (List.map Prod.snd X).length = i by omega]
theorem ssA_L {X Y : List AI} {e : SS} {i : Nat} (h : i ≤ X.length) : ssA (X ++ Y) e i = ssA X (ssA Y e 0) i := by
  by_cases c : i = X.length
  · subst c
    have := ssA_R (X := X) (Y := Y) (e := e) 0
    rw [Nat.add_zero] at this
    rw [this, ssA_end]
  · have := ssA_mid (X := []) (Y := X) (Z := Y) (e := ssA Y e 0) (e' := e) (i := i) (by omega)
    rw [List.nil_append, List.length_nil, Nat.zero_add] at this
    exact this
abbrev RS : Type := Option Nat × Nat × (Nat → Nat)
/-- a stroke -/
def anStr (n : Nat) (sl : Nat → Nat) (q : Int32) (k ax : Nat) (axo : Option Nat) (wa : List Int32) (es : List It) : List AI := (([1, q] ++ wa, 8, q, 0), (0, none, n, sl)) :: (annE 0 (axo, n, sl) es ++ [(([21, nI k], 9, nI k, nI ax), (mny k, axo, n, sl))])
theorem anStr_map (n : Nat) (sl : Nat → Nat) (q : Int32) (k ax : Nat) (axo : Option Nat) (wa : List Int32) (es : List It) : (anStr n sl q k ax axo wa es).map Prod.fst = ([1, q] ++ wa, 8, q, 0) :: (es ++ [([21, nI k], 9, nI k, nI ax)]) := by
  unfold anStr
  rw [List.map_cons, List.map_append, annE_map]
  rfl
theorem anStr_GD {n : Nat} {sl : Nat → Nat} {q : Int32} {k ax : Nat} {wa : List Int32} {es : List It} {o c s p : Nat} {pm : Nat → Nat} (hk : k ≤ 3) (hw : (k = 0 ∧ ax = 0 ∧ wa = []) ∨ (1 ≤ k ∧ ax < 2 ∧ wa = [2, nI ax])) (hx : HX es (mny k)) (hg : ∀ x, x ∈ es → gI n sl x) : GD (anStr n sl q k ax (if k = 0 then some 8 else some ax) wa es) (0, none, n, sl) o c s pm p := by
  have hg' : HG 40 es 0 (0 + mny k) := hx 0 (by
    have : k = 0 ∨ k = 1 ∨ k = 2 ∨ k = 3 := by omega
    rcases this with rfl | rfl | rfl | rfl <;> decide)
  rw [Nat.zero_add] at hg'
  generalize hax : (if k = 0 then some 8 else some ax : Option Nat) = axo
  have hm : exM axo := by
    rw [← hax]
    by_cases c : k = 0
    · rw [if_pos c]; exact Or.inl rfl
    · rw [if_neg c]
      have : ax = 0 ∨ ax = 1 := by rcases hw with ⟨h, _⟩ | ⟨_, h, _⟩ <;> omega
      rcases this with rfl | rfl
      · exact Or.inr (Or.inl rfl)
      · exact Or.inr (Or.inr rfl)
  have g1 := annE_GD (r := (axo, n, sl)) (s := s) (pm := pm) (p := p) es 0 (o + (wds (([((([1, q] ++ wa, 8, q, 0) : It), ((0, none, n, sl) : SS))] : List AI).map Prod.fst)).length) (c + 1) hg' hm hg
  have g2 : GD [(([21, nI k], 9, nI k, nI ax), ((mny k, axo, n, sl) : SS))] (0, none, n, sl) (o + (wds (([((([1, q] ++ wa, 8, q, 0) : It), ((0, none, n, sl) : SS))] : List AI).map Prod.fst)).length + (wds ((annE 0 (axo, n, sl) es).map Prod.fst)).length) (c + 1 + (annE 0 (axo, n, sl) es).length) s pm p := by
    refine GD_one (Or.inr (Or.inr (Or.inr (Or.inr (Or.inr (Or.inr (Or.inl ⟨k, ax, hk, ?_, rfl, rfl, ?_, rfl⟩)))))))
    · rcases hw with ⟨_, h, _⟩ | ⟨_, h, _⟩
      · omega
      · exact h
    · rcases hw with ⟨h1, h2, _⟩ | ⟨h1, _, _⟩
      · exact Or.inl ⟨h1, h2, by rw [← hax, if_pos h1]⟩
      · exact Or.inr ⟨h1, by rw [← hax, if_neg (by omega)]⟩
  have g3 := GD_app (X := annE 0 (axo, n, sl) es) (Y := [(([21, nI k], 9, nI k, nI ax), ((mny k, axo, n, sl) : SS))]) g1 g2
  refine GD_app (X := [(([1, q] ++ wa, 8, q, 0), (0, none, n, sl))]) (Y := annE 0 (axo, n, sl) es ++ [(([21, nI k], 9, nI k, nI ax), ((mny k, axo, n, sl) : SS))]) ?_ g3
  have h0 : ssA (annE 0 (axo, n, sl) es ++ [((([21, nI k], 9, nI k, nI ax) : It), ((mny k, axo, n, sl) : SS))]) (0, none, n, sl) 0 = (0, axo, n, sl) := by
    rw [ssA_L (Nat.zero_le _)]
    exact annE_0 hg'
  rw [h0]
  refine GD_one (Or.inr (Or.inr (Or.inr (Or.inr (Or.inr (Or.inl ⟨rfl, rfl, q, rfl, ?_⟩))))))
  rcases hw with ⟨h1, h2, h3⟩ | ⟨h1, h2, h3⟩
  · rw [if_pos h1] at hax
    subst h3 hax
    exact Or.inl ⟨rfl, rfl⟩
  · rw [if_neg (by omega)] at hax
    subst h3 hax
    exact Or.inr ⟨ax, h2, rfl, rfl⟩
/-- a do -/
def anDo (n : Nat) (sl : Nat → Nat) (q : Int32) (i na : Nat) (es : List It) : List AI := (([1, q], 8, q, 0), (0, none, n, sl)) :: (annE 0 (some 8, n, sl) es ++ [(([22, nI i], 17, nI i, nI na), (na, some 8, n, sl))])
theorem anDo_map (n : Nat) (sl : Nat → Nat) (q : Int32) (i na : Nat) (es : List It) : (anDo n sl q i na es).map Prod.fst = ([1, q], 8, q, 0) :: (es ++ [([22, nI i], 17, nI i, nI na)]) := by
  unfold anDo
  rw [List.map_cons, List.map_append, annE_map]
  rfl
theorem anDo_GD {n : Nat} {sl : Nat → Nat} {q : Int32} {i na : Nat} {es : List It} {o c s p : Nat} {pm : Nat → Nat} (hi : i < p) (hn : pm i = na) (hna : na ≤ 2) (hx : HX es na) (hg : ∀ x, x ∈ es → gI n sl x) : GD (anDo n sl q i na es) (0, none, n, sl) o c s pm p := by
  have hg' : HG 40 es 0 (0 + na) := hx 0 (by omega)
  rw [Nat.zero_add] at hg'
  have g1 := annE_GD (r := (some 8, n, sl)) (s := s) (pm := pm) (p := p) es 0 (o + (wds (([((([1, q], 8, q, 0) : It), ((0, none, n, sl) : SS))] : List AI).map Prod.fst)).length) (c + 1) hg' (Or.inl rfl) hg
  have g2 : GD [(([22, nI i], 17, nI i, nI na), ((na, some 8, n, sl) : SS))] (0, none, n, sl) (o + (wds (([((([1, q], 8, q, 0) : It), ((0, none, n, sl) : SS))] : List AI).map Prod.fst)).length + (wds ((annE 0 (some 8, n, sl) es).map Prod.fst)).length) (c + 1 + (annE 0 (some 8, n, sl) es).length) s pm p :=
    GD_one (Or.inr (Or.inr (Or.inr (Or.inr (Or.inr (Or.inr (Or.inr (Or.inr (Or.inr (Or.inr (Or.inr ⟨i, hi, by rw [hn], hn.symm, rfl, rfl⟩)))))))))))
  have g3 := GD_app (X := annE 0 (some 8, n, sl) es) (Y := [(([22, nI i], 17, nI i, nI na), ((na, some 8, n, sl) : SS))]) g1 g2
  refine GD_app (X := [(([1, q], 8, q, 0), (0, none, n, sl))]) (Y := annE 0 (some 8, n, sl) es ++ [(([22, nI i], 17, nI i, nI na), ((na, some 8, n, sl) : SS))]) ?_ g3
  have h0 : ssA (annE 0 (some 8, n, sl) es ++ [((([22, nI i], 17, nI i, nI na) : It), ((na, some 8, n, sl) : SS))]) (0, none, n, sl) 0 = (0, some 8, n, sl) := by
    rw [ssA_L (Nat.zero_le _)]
    exact annE_0 hg'
  rw [h0]
  exact GD_one (Or.inr (Or.inr (Or.inr (Or.inr (Or.inr (Or.inl ⟨rfl, rfl, q, rfl, Or.inl ⟨rfl, rfl⟩⟩))))))
theorem wo_at {X Y : List AI} {i : Nat} (h : i ≤ Y.length) : wo (X ++ Y) (X.length + i) = (wds (X.map Prod.fst)).length + wo Y i := by
  have := wo_mid (X := X) (Y := Y) (Z := []) h
  rw [List.append_nil] at this
  exact this
def deedA (r : RS) (q : Int32) : AI := (([1, q], 8, q, 0), (0, r))
/-- if without else -/
theorem GD_if {n : Nat} {sl : Nat → Nat} {q sk fR tR : Int32} {rl : List Rl} {C T : List AI} {o c s p : Nat} {pm : Nat → Nat} (hC : C = anC (some 8, n, sl) s (o + 2) (c + 1) [] [] rl sk fR tR) (hk : okRl rl) (hh : ∀ y, y ∈ rl → HX y.1 2) (hg : ∀ y, y ∈ rl → ∀ x, x ∈ y.1 → gI n sl x) (hT : GD T (0, none, n, sl) (o + 2 + (wds (C.map Prod.fst)).length) (c + 1 + C.length) s pm p) (hT0 : ssA T (0, none, n, sl) 0 = (0, none, n, sl)) (hsk : sk = nI (o + 2 + (wds (C.map Prod.fst)).length + (wds (T.map Prod.fst)).length)) (hfR : fR = nI (2000 * s + (c + 1 + C.length + T.length))) (htR : tR = nI (2000 * s + (c + 1 + C.length))) : GD ([deedA (none, n, sl) q] ++ (C ++ T)) (0, none, n, sl) o c s pm p := by
  generalize hW : [deedA (none, n, sl) q] ++ (C ++ T) = W
  have hl : W.length = 1 + C.length + T.length := by rw [← hW, List.length_append, List.length_append]; show 1 + _ = _; omega
  have hW2 : W = ([deedA (none, n, sl) q] ++ C) ++ (T ++ []) := by rw [← hW, List.append_nil, List.append_assoc]
  have hX2 : ([deedA (none, n, sl) q] ++ C).length = 1 + C.length := by rw [List.length_append]; rfl
  have hXw : (wds ((([deedA (none, n, sl) q] ++ C)).map Prod.fst)).length = 2 + (wds (C.map Prod.fst)).length := by rw [List.map_append, wds_app, List.length_append]; rfl
  have hsE : ssA W (0, none, n, sl) W.length = (0, none, n, sl) := ssA_end _ _
  have hsC : ssA W (0, none, n, sl) (1 + C.length) = (0, none, n, sl) := by
    rw [hW2, List.append_nil, ← hX2]
    have := ssA_R (X := [deedA (none, n, sl) q] ++ C) (Y := T) (e := (0, none, n, sl)) 0
    rw [Nat.add_zero] at this
    rw [this, hT0]
  have gC : GP W (0, none, n, sl) o c s pm p 1 (1 + C.length) := by
    have := anC_GP (r := (some 8, n, sl)) (s := s) (oB := o) (cB := c) (jF := W.length) (p := p) (pm := pm) (sk := sk) (fR := fR) (tR := tR) (W := W) (Z := T) (0, none, n, sl) (Nat.le_refl _) (by
      unfold tgC
      rw [hsk, wo_len, hW2, List.append_nil, List.map_append, wds_app, List.length_append, hXw, ← Nat.add_assoc, ← Nat.add_assoc]) (by
      unfold tgR
      rw [hfR, hl]
      congr 1
      omega) rfl hsE rl [deedA (none, n, sl) q] [] [] (1 + C.length) (by rw [← hW, hC]; rfl) hk (by rw [hC]; rfl) (by
      unfold tgR
      rw [htR]
      congr 1
      omega) (by omega) hsC hh hg
    exact this
  have gT : GP W (0, none, n, sl) o c s pm p (1 + C.length) (1 + C.length + T.length) := by
    rw [← hX2, hW2]
    refine GP_emb ?_ ?_ (e := (0, none, n, sl))
    · rw [← hW2, hX2, ← hl]; exact hsE
    · rw [hXw, hX2, ← Nat.add_assoc, ← Nat.add_assoc]; exact hT
  unfold GD
  rw [hl]
  refine GP_join (GP_join ?_ gC) gT
  have l := look_at (W := W) (X := []) (x := deedA (none, n, sl) q) (Z := C ++ T) (0, none, n, sl) (by rw [← hW]; rfl)
  refine GP_one (Or.inr (Or.inr (Or.inr (Or.inr (Or.inr (Or.inl ⟨?_, ?_, q, ?_, Or.inl ⟨?_, ?_⟩⟩))))))
  · show (ssA W _ ([] : List AI).length).1 = 0; rw [l.2.1]; rfl
  · show (ssA W _ ([] : List AI).length).2.1 = none; rw [l.2.1]; rfl
  · show (itA W ([] : List AI).length).2 = _; rw [l.1]; rfl
  · show (itA W ([] : List AI).length).1 = _; rw [l.1]; rfl
  · have b : ssA W (0, none, n, sl) 1 = (0, some 8, n, sl) := by
      have := anC_fst (W := W) (X := [deedA (none, n, sl) q]) (Z := T) (r := (some 8, n, sl)) (0, none, n, sl) (by rw [← hW, hC]) hk hh
      exact this
    show ssA W _ 1 = (0, some 8, (ssA W _ ([] : List AI).length).2.2)
    rw [b, l.2.1]; rfl
/-- if with else -/
theorem GD_ife {n : Nat} {sl : Nat → Nat} {q sk fR tR t : Int32} {rl : List Rl} {C T E : List AI} {o c s p : Nat} {pm : Nat → Nat} (hC : C = anC (some 8, n, sl) s (o + 2) (c + 1) [] [] rl sk fR tR) (hk : okRl rl) (hh : ∀ y, y ∈ rl → HX y.1 2) (hg : ∀ y, y ∈ rl → ∀ x, x ∈ y.1 → gI n sl x) (hT : GD T (0, none, n, sl) (o + 2 + (wds (C.map Prod.fst)).length) (c + 1 + C.length) s pm p) (hT0 : ssA T (0, none, n, sl) 0 = (0, none, n, sl)) (hE : GD E (0, none, n, sl) (o + 2 + (wds (C.map Prod.fst)).length + (wds (T.map Prod.fst)).length + 2) (c + 1 + C.length + T.length + 1) s pm p) (hE0 : ssA E (0, none, n, sl) 0 = (0, none, n, sl)) (hsk : sk = nI (o + 2 + (wds (C.map Prod.fst)).length + (wds (T.map Prod.fst)).length + 2)) (hfR : fR = nI (2000 * s + (c + 1 + C.length + T.length + 1))) (htR : tR = nI (2000 * s + (c + 1 + C.length))) : GD ([deedA (none, n, sl) q] ++ (C ++ (T ++ ((([17, nI (o + 2 + (wds (C.map Prod.fst)).length + (wds (T.map Prod.fst)).length + 2 + (wds (E.map Prod.fst)).length)], 13, nI (2000 * s + (c + 1 + C.length + T.length + 1 + E.length)), t), (0, none, n, sl)) :: E)))) (0, none, n, sl) o c s pm p := by
  generalize hJ : ((([17, nI (o + 2 + (wds (C.map Prod.fst)).length + (wds (T.map Prod.fst)).length + 2 + (wds (E.map Prod.fst)).length)], 13, nI (2000 * s + (c + 1 + C.length + T.length + 1 + E.length)), t), (0, none, n, sl)) : AI) = J
  have hJ1 : J.1 = ([17, nI (o + 2 + (wds (C.map Prod.fst)).length + (wds (T.map Prod.fst)).length + 2 + (wds (E.map Prod.fst)).length)], 13, nI (2000 * s + (c + 1 + C.length + T.length + 1 + E.length)), t) := by rw [← hJ]
  have hJ2 : J.2 = (0, none, n, sl) := by rw [← hJ]
  clear hJ
  generalize hW : [deedA (none, n, sl) q] ++ (C ++ (T ++ (J :: E))) = W
  have hl : W.length = 1 + C.length + T.length + 1 + E.length := by rw [← hW]; simp only [List.length_append, List.length_cons, List.length_nil]; omega
  have hW2 : W = ([deedA (none, n, sl) q] ++ C) ++ (T ++ (J :: E)) := by rw [← hW, List.append_assoc]
  have hW3 : W = ([deedA (none, n, sl) q] ++ C ++ T) ++ (J :: E) := by rw [← hW]; simp only [List.append_assoc]
  have hW4 : W = ([deedA (none, n, sl) q] ++ C ++ T ++ [J]) ++ (E ++ []) := by rw [← hW]; simp only [List.append_assoc, List.append_nil, List.cons_append, List.nil_append]
  have hX2 : ([deedA (none, n, sl) q] ++ C).length = 1 + C.length := by rw [List.length_append]; rfl
  have hX3 : ([deedA (none, n, sl) q] ++ C ++ T).length = 1 + C.length + T.length := by rw [List.length_append, hX2]
  have hX4 : ([deedA (none, n, sl) q] ++ C ++ T ++ [J]).length = 1 + C.length + T.length + 1 := by rw [List.length_append, hX3]; rfl
  have hXw : (wds ((([deedA (none, n, sl) q] ++ C)).map Prod.fst)).length = 2 + (wds (C.map Prod.fst)).length := by rw [List.map_append, wds_app, List.length_append]; rfl
  have hXw3 : (wds ((([deedA (none, n, sl) q] ++ C ++ T)).map Prod.fst)).length = 2 + (wds (C.map Prod.fst)).length + (wds (T.map Prod.fst)).length := by rw [List.map_append, wds_app, List.length_append, hXw]
  have hXw4 : (wds ((([deedA (none, n, sl) q] ++ C ++ T ++ [J])).map Prod.fst)).length = 2 + (wds (C.map Prod.fst)).length + (wds (T.map Prod.fst)).length + 2 := by
    rw [List.map_append, wds_app, List.length_append, hXw3]
    show _ + (J.1.1 ++ []).length = _
    rw [hJ1]; rfl
  have hsE : ssA W (0, none, n, sl) W.length = (0, none, n, sl) := ssA_end _ _
  have hsJ : ssA W (0, none, n, sl) (1 + C.length + T.length) = (0, none, n, sl) := by
    have := look_at (0, none, n, sl) hW3
    rw [hX3] at this
    rw [this.2.1, hJ2]
  have hiJ : itA W (1 + C.length + T.length) = J.1 := by
    have := look_at (0, none, n, sl) hW3
    rw [hX3] at this
    exact this.1
  have hs4 : ssA W (0, none, n, sl) (1 + C.length + T.length + 1) = (0, none, n, sl) := by
    rw [hW4, List.append_nil, ← hX4]
    have := ssA_R (X := [deedA (none, n, sl) q] ++ C ++ T ++ [J]) (Y := E) (e := (0, none, n, sl)) 0
    rw [Nat.add_zero] at this
    rw [this, hE0]
  have hsC : ssA W (0, none, n, sl) (1 + C.length) = (0, none, n, sl) := by
    rw [hW2, ← hX2]
    have := ssA_R (X := [deedA (none, n, sl) q] ++ C) (Y := T ++ (J :: E)) (e := (0, none, n, sl)) 0
    rw [Nat.add_zero] at this
    rw [this, ssA_L (Nat.zero_le _)]
    show ssA T J.2 0 = _
    rw [hJ2, hT0]
  have gC : GP W (0, none, n, sl) o c s pm p 1 (1 + C.length) := by
    have := anC_GP (r := (some 8, n, sl)) (s := s) (oB := o) (cB := c) (jF := 1 + C.length + T.length + 1) (p := p) (pm := pm) (sk := sk) (fR := fR) (tR := tR) (W := W) (Z := T ++ (J :: E)) (0, none, n, sl) (by omega) (by
      unfold tgC
      have w := wo_at (X := [deedA (none, n, sl) q] ++ C ++ T ++ [J]) (Y := E) (i := 0) (Nat.zero_le _)
      rw [Nat.add_zero, hX4, wo_0, hXw4, Nat.add_zero] at w
      rw [hsk, hW4, List.append_nil, w]
      congr 1
      omega) (by
      unfold tgR
      rw [hfR]
      congr 1
      omega) rfl hs4 rl [deedA (none, n, sl) q] [] [] (1 + C.length) (by rw [← hW, hC]; rfl) hk (by rw [hC]; rfl) (by
      unfold tgR
      rw [htR]
      congr 1
      omega) (by omega) hsC hh hg
    exact this
  have gT : GP W (0, none, n, sl) o c s pm p (1 + C.length) (1 + C.length + T.length) := by
    rw [← hX2, hW2]
    refine GP_emb ?_ ?_ (e := (0, none, n, sl))
    · rw [← hW2, hX2]; exact hsJ
    · rw [hXw, hX2, ← Nat.add_assoc, ← Nat.add_assoc]; exact hT
  have gJ : GP W (0, none, n, sl) o c s pm p (1 + C.length + T.length) (1 + C.length + T.length + 1) := by
    refine GP_one (Or.inr (Or.inr (Or.inr (Or.inr (Or.inr (Or.inr (Or.inr (Or.inr (Or.inr (Or.inr (Or.inl ⟨by rw [hsJ], by rw [hsJ], W.length, t, by omega, Nat.le_refl _, ?_, by rw [hsE, hsJ]⟩)))))))))))
    rw [hiJ, hJ1]
    unfold tgC tgR
    rw [wo_len, hl, hW4, List.append_nil, List.map_append (l₂ := E), wds_app, List.length_append, hXw4]
    congr 3
    · congr 1; omega
    · congr 1
      · congr 1; omega
  have gE : GP W (0, none, n, sl) o c s pm p (1 + C.length + T.length + 1) (1 + C.length + T.length + 1 + E.length) := by
    rw [← hX4, hW4]
    refine GP_emb ?_ ?_ (e := (0, none, n, sl))
    · rw [← hW4, hX4, ← hl]; exact hsE
    · rw [hXw4, hX4]
      have e1 : o + (2 + (wds (C.map Prod.fst)).length + (wds (T.map Prod.fst)).length + 2) = o + 2 + (wds (C.map Prod.fst)).length + (wds (T.map Prod.fst)).length + 2 := by omega
      have e2 : c + (1 + C.length + T.length + 1) = c + 1 + C.length + T.length + 1 := by omega
      rw [e1, e2]; exact hE
  unfold GD
  rw [hl]
  refine GP_join (GP_join (GP_join (GP_join ?_ gC) gT) gJ) gE
  have l := look_at (W := W) (X := []) (x := deedA (none, n, sl) q) (Z := C ++ (T ++ (J :: E))) (0, none, n, sl) (by rw [← hW]; rfl)
  refine GP_one (Or.inr (Or.inr (Or.inr (Or.inr (Or.inr (Or.inl ⟨?_, ?_, q, ?_, Or.inl ⟨?_, ?_⟩⟩))))))
  · show (ssA W _ ([] : List AI).length).1 = 0; rw [l.2.1]; rfl
  · show (ssA W _ ([] : List AI).length).2.1 = none; rw [l.2.1]; rfl
  · show (itA W ([] : List AI).length).2 = _; rw [l.1]; rfl
  · show (itA W ([] : List AI).length).1 = _; rw [l.1]; rfl
  · have b : ssA W (0, none, n, sl) 1 = (0, some 8, n, sl) := by
      have := anC_fst (W := W) (X := [deedA (none, n, sl) q]) (Z := T ++ (J :: E)) (r := (some 8, n, sl)) (0, none, n, sl) (by rw [← hW, hC]) hk hh
      exact this
    show ssA W _ 1 = (0, some 8, (ssA W _ ([] : List AI).length).2.2)
    rw [b, l.2.1]; rfl
