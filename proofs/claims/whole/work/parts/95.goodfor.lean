/-! for is good code -/
theorem GD_for {n v : Nat} {sl sl' : Nat → Nat} {q q' : Int32} {es : List It} {B : List AI} {o c s p : Nat} {pm : Nat → Nat} (hn : n < 8) (hv : 2 ≤ v ∧ v < 8) (hsl : ∀ k, k < n → sl' k = sl k ∧ sl k < v) (hsn : sl' n = v) (hx : HX es 2) (hg : ∀ x, x ∈ es → gI n sl x) (hB : GD B (0, none, n + 1, sl') (o + 2 + (wds es).length + 5) (c + 1 + es.length + 2) s pm p) (hB0 : ssA B (0, none, n + 1, sl') 0 = (0, none, n + 1, sl')) : GD ([deedA (none, n, sl) q] ++ (annE 0 (some 8, n, sl) es ++ ((([18, nI n, nI (o + 2 + (wds es).length + 5 + (wds (B.map Prod.fst)).length + 3)], 10, nI v, nI (2000 * s + (c + 1 + es.length + 2 + B.length + 1))), (2, some 8, n, sl)) :: (([19, q'], 11, q', 0), (0, none, n + 1, sl')) :: (B ++ [(([20, nI n, nI (o + 2 + (wds es).length + 3)], 12, nI v, nI (2000 * s + (c + 1 + es.length + 1))), (0, none, n + 1, sl'))])))) (0, none, n, sl) o c s pm p := by
  have hg' : HG 40 es 0 (0 + 2) := hx 0 (by omega)
  generalize hF : ((([18, nI n, nI (o + 2 + (wds es).length + 5 + (wds (B.map Prod.fst)).length + 3)], 10, nI v, nI (2000 * s + (c + 1 + es.length + 2 + B.length + 1))), (2, some 8, n, sl)) : AI) = F
  have hF1 : F.1 = ([18, nI n, nI (o + 2 + (wds es).length + 5 + (wds (B.map Prod.fst)).length + 3)], 10, nI v, nI (2000 * s + (c + 1 + es.length + 2 + B.length + 1))) := by rw [← hF]
  have hF2 : F.2 = (2, some 8, n, sl) := by rw [← hF]
  clear hF
  generalize hU : ((([19, q'], 11, q', 0), (0, none, n + 1, sl')) : AI) = U
  have hU1 : U.1 = ([19, q'], 11, q', 0) := by rw [← hU]
  have hU2 : U.2 = (0, none, n + 1, sl') := by rw [← hU]
  clear hU
  generalize hN : ((([20, nI n, nI (o + 2 + (wds es).length + 3)], 12, nI v, nI (2000 * s + (c + 1 + es.length + 1))), (0, none, n + 1, sl')) : AI) = N
  have hN1 : N.1 = ([20, nI n, nI (o + 2 + (wds es).length + 3)], 12, nI v, nI (2000 * s + (c + 1 + es.length + 1))) := by rw [← hN]
  have hN2 : N.2 = (0, none, n + 1, sl') := by rw [← hN]
  clear hN
  generalize hA : annE 0 (some 8, n, sl) es = A
  have hAl : A.length = es.length := by rw [← hA, annE_len]
  have hAw : (wds (A.map Prod.fst)).length = (wds es).length := by rw [← hA, annE_map]
  have hA0 : ssA A (2, some 8, n, sl) 0 = (0, some 8, n, sl) := by rw [← hA]; exact annE_0 hg'
  have hAG : GD A (2, some 8, n, sl) (o + 2) (c + 1) s pm p := by rw [← hA]; exact annE_GD es 0 _ _ hg' (Or.inl rfl) hg
  clear hA
  generalize hW : [deedA (none, n, sl) q] ++ (A ++ (F :: U :: (B ++ [N]))) = W
  have hl : W.length = 1 + A.length + 1 + 1 + B.length + 1 := by rw [← hW]; simp only [List.length_append, List.length_cons, List.length_nil]; omega
  have w1 : W = [deedA (none, n, sl) q] ++ (A ++ (F :: U :: (B ++ [N]))) := hW.symm
  have w2 : W = ([deedA (none, n, sl) q] ++ A) ++ (F :: (U :: (B ++ [N]))) := by rw [← hW, List.append_assoc]
  have w3 : W = ([deedA (none, n, sl) q] ++ A ++ [F]) ++ (U :: (B ++ [N])) := by rw [← hW]; simp only [List.append_assoc, List.cons_append, List.nil_append]
  have w4 : W = ([deedA (none, n, sl) q] ++ A ++ [F] ++ [U]) ++ (B ++ [N]) := by rw [← hW]; simp only [List.append_assoc, List.cons_append, List.nil_append]
  have w5 : W = ([deedA (none, n, sl) q] ++ A ++ [F] ++ [U] ++ B) ++ (N :: []) := by rw [← hW]; simp only [List.append_assoc, List.cons_append, List.nil_append]
  have x2 : ([deedA (none, n, sl) q] ++ A).length = 1 + A.length := by rw [List.length_append]; rfl
  have x3 : ([deedA (none, n, sl) q] ++ A ++ [F]).length = 1 + A.length + 1 := by rw [List.length_append, x2]; rfl
  have x4 : ([deedA (none, n, sl) q] ++ A ++ [F] ++ [U]).length = 1 + A.length + 1 + 1 := by rw [List.length_append, x3]; rfl
  have x5 : ([deedA (none, n, sl) q] ++ A ++ [F] ++ [U] ++ B).length = 1 + A.length + 1 + 1 + B.length := by rw [List.length_append, x4]
  have y2 : (wds (([deedA (none, n, sl) q] ++ A).map Prod.fst)).length = 2 + (wds es).length := by rw [List.map_append, wds_app, List.length_append, hAw]; rfl
  have y3 : (wds (([deedA (none, n, sl) q] ++ A ++ [F]).map Prod.fst)).length = 2 + (wds es).length + 3 := by
    rw [List.map_append, wds_app, List.length_append, y2]
    show _ + (F.1.1 ++ []).length = _
    rw [hF1]; rfl
  have y4 : (wds (([deedA (none, n, sl) q] ++ A ++ [F] ++ [U]).map Prod.fst)).length = 2 + (wds es).length + 3 + 2 := by
    rw [List.map_append, wds_app, List.length_append, y3]
    show _ + (U.1.1 ++ []).length = _
    rw [hU1]; rfl
  have y5 : (wds (([deedA (none, n, sl) q] ++ A ++ [F] ++ [U] ++ B).map Prod.fst)).length = 2 + (wds es).length + 3 + 2 + (wds (B.map Prod.fst)).length := by
    rw [List.map_append, wds_app, List.length_append, y4]
  have y6 : (wds (W.map Prod.fst)).length = 2 + (wds es).length + 3 + 2 + (wds (B.map Prod.fst)).length + 3 := by
    rw [w5, List.map_append, wds_app, List.length_append, y5]
    show _ + (N.1.1 ++ []).length = _
    rw [hN1]; rfl
  have l1 := look_at (X := []) (0, none, n, sl) w1
  have l2 := look_at (0, none, n, sl) w2
  have l3 := look_at (0, none, n, sl) w3
  have l5 := look_at (0, none, n, sl) w5
  rw [x2] at l2
  rw [x3] at l3
  rw [x5] at l5
  have sE : ssA W (0, none, n, sl) (1 + A.length + 1 + 1 + B.length + 1) = (0, none, n, sl) := by rw [← hl]; exact ssA_end _ _
  have s4 : ssA W (0, none, n, sl) (1 + A.length + 1 + 1) = (0, none, n + 1, sl') := by
    rw [w4, ← x4]
    have := ssA_R (X := [deedA (none, n, sl) q] ++ A ++ [F] ++ [U]) (Y := B ++ [N]) (e := (0, none, n, sl)) 0
    rw [Nat.add_zero] at this
    rw [this, ssA_L (Nat.zero_le _)]
    show ssA B N.2 0 = _
    rw [hN2, hB0]
  have s1 : ssA W (0, none, n, sl) 1 = (0, some 8, n, sl) := by
    have := ssA_R (X := [deedA (none, n, sl) q]) (Y := A ++ (F :: U :: (B ++ [N]))) (e := (0, none, n, sl)) 0
    rw [hW] at this
    show ssA W _ ([deedA (none, n, sl) q].length + 0) = _
    rw [this, ssA_L (Nat.zero_le _)]
    show ssA A F.2 0 = _
    rw [hF2, hA0]
  -- the parts
  have g0 : GP W (0, none, n, sl) o c s pm p 0 1 := by
    refine GP_one (Or.inr (Or.inr (Or.inr (Or.inr (Or.inr (Or.inl ⟨?_, ?_, q, ?_, Or.inl ⟨?_, ?_⟩⟩))))))
    · show (ssA W _ ([] : List AI).length).1 = 0; rw [l1.2.1]; rfl
    · show (ssA W _ ([] : List AI).length).2.1 = none; rw [l1.2.1]; rfl
    · show (itA W ([] : List AI).length).2 = _; rw [l1.1]; rfl
    · show (itA W ([] : List AI).length).1 = _; rw [l1.1]; rfl
    · show ssA W _ 1 = (0, some 8, (ssA W _ ([] : List AI).length).2.2)
      rw [s1, l1.2.1]; rfl
  have g1 : GP W (0, none, n, sl) o c s pm p 1 (1 + A.length) := by
    have : GP ([deedA (none, n, sl) q] ++ (A ++ (F :: U :: (B ++ [N])))) (0, none, n, sl) o c s pm p ([deedA (none, n, sl) q] : List AI).length (([deedA (none, n, sl) q] : List AI).length + A.length) := by
      refine GP_emb (e := (2, some 8, n, sl)) ?_ hAG
      rw [hW]
      show ssA W _ (1 + A.length) = _
      rw [l2.2.1, hF2]
    rw [hW] at this
    exact this
  have g2 : GP W (0, none, n, sl) o c s pm p (1 + A.length) (1 + A.length + 1) := by
    refine GP_one (Or.inr (Or.inr (Or.inr (Or.inr (Or.inr (Or.inr (Or.inr (Or.inl ?_))))))))
    rw [l2.1, l2.2.1, l3.2.1, hF1, hF2, hU2]
    refine ⟨rfl, rfl, hn, W.length, v, sl', by omega, Nat.le_refl _, ?_, hv.1, hv.2, hsl, hsn, rfl, by rw [hl, sE]⟩
    have e1 : tgC W o W.length = nI (o + 2 + (wds es).length + 5 + (wds (B.map Prod.fst)).length + 3) := by
      unfold tgC
      rw [wo_len, y6]
      congr 1
      omega
    have e2 : tgR s c W.length = nI (2000 * s + (c + 1 + es.length + 2 + B.length + 1)) := by
      unfold tgR
      rw [hl, hAl]
      congr 1
      omega
    rw [e1, e2]
  have g3 : GP W (0, none, n, sl) o c s pm p (1 + A.length + 1) (1 + A.length + 1 + 1) := by
    refine GP_one (Or.inr (Or.inr (Or.inr (Or.inr (Or.inr (Or.inr (Or.inr (Or.inr (Or.inl ?_)))))))))
    rw [l3.1, l3.2.1, s4, hU1, hU2]
    exact ⟨rfl, rfl, rfl, q', rfl⟩
  have g4 : GP W (0, none, n, sl) o c s pm p (1 + A.length + 1 + 1) (1 + A.length + 1 + 1 + B.length) := by
    rw [← x4, w4]
    refine GP_emb (e := (0, none, n + 1, sl')) ?_ ?_
    · rw [← w4, x4, l5.2.1, hN2]
    · rw [y4, x4]
      have e1 : o + (2 + (wds es).length + 3 + 2) = o + 2 + (wds es).length + 5 := by omega
      have e2 : c + (1 + A.length + 1 + 1) = c + 1 + es.length + 2 := by omega
      rw [e1, e2]; exact hB
  have g5 : GP W (0, none, n, sl) o c s pm p (1 + A.length + 1 + 1 + B.length) (1 + A.length + 1 + 1 + B.length + 1) := by
    refine GP_one (Or.inr (Or.inr (Or.inr (Or.inr (Or.inr (Or.inr (Or.inr (Or.inr (Or.inr (Or.inl ?_))))))))))
    rw [l5.1, l5.2.1, sE, hN1, hN2]
    refine ⟨rfl, rfl, 1 + A.length + 1, n, sl, by omega, by omega, rfl, ?_, rfl, fun k hk => (hsl k hk).1.symm, by rw [l3.2.1, hU2], by rw [l3.1, hU1], by show 2 ≤ sl' n; rw [hsn]; exact hv.1⟩
    have w := l3.2.2.1
    rw [y3] at w
    have e1 : tgC W o (1 + A.length + 1) = nI (o + 2 + (wds es).length + 3) := by
      unfold tgC
      rw [w]
      congr 1
      omega
    have e2 : tgR s c (1 + A.length + 1) = nI (2000 * s + (c + 1 + es.length + 1)) := by
      unfold tgR
      rw [hAl]
      congr 1
      omega
    rw [e1, e2]
    show _ = (_, _, nI (sl' n), _)
    rw [hsn]
  unfold GD
  rw [hl]
  exact GP_join (GP_join (GP_join (GP_join (GP_join g0 g1) g2) g3) g4) g5
