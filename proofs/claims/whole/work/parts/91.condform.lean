/-! conditions: the closed form of what both build -/
def aimA (o : Option Nat) (v : Nat) (ws : List Int32) : List Int32 := match o with
  | none => ws
  | some i => ws.set i (nI v)
theorem aimA_len (o : Option Nat) (v : Nat) (ws : List Int32) : (aimA o v ws).length = ws.length := by
  cases o with
  | none => rfl
  | some i => exact List.length_set
theorem aimA_app {o : Option Nat} {v : Nat} {a b : List Int32} (h : ∀ i, o = some i → i < a.length) : aimA o v (a ++ b) = aimA o v a ++ b := by
  cases o with
  | none => rfl
  | some i => exact List.set_append_left _ _ (h i rfl)
theorem aimA_last {v : Nat} {a : List Int32} (x y : Int32) : aimA (some (a.length + 1)) v (a ++ [x, y]) = a ++ [x, nI v] := by
  show (a ++ [x, y]).set (a.length + 1) (nI v) = _
  rw [List.set_append_right _ _ (by omega), show a.length + 1 - a.length = 1 by omega]
  rfl
theorem aimW_A (o : Option Nat) (ws : List Int32) : aimW o ws = aimA o ws.length ws := by
  cases o <;> rfl
def cnO (o : Nat) (rl : List Rl) : Nat := match rl with
  | [] => o
  | r :: _ => o + (wds r.1).length + 1
def cnN (o : Nat) (rl : List Rl) : Nat := match rl with
  | [] => o
  | r :: rl => if r.2.2 = 2 then cnN (o + (wds r.1).length + 3) rl else o + (wds r.1).length + 1
def gfR (s n : Nat) (rl : List Rl) (fR : Int32) : Int32 := match rl with
  | [] => fR
  | r :: rl => if r.2.2 = 2 then gfR s (n + r.1.length + 2) rl fR else if r.2.2 = 1 then nI (2000 * s + (n + r.1.length + 2)) else fR
def cI (s o n : Nat) (c5 c6 : List Nat) (rl : List Rl) (sk fR tR : Int32) : List It := match rl with
  | [] => []
  | r :: rl => r.1 ++ ([nI (r.2.1 + 10)], 14, nI r.2.1, 0) ::
    (if r.2.2 = 2 then ([14, nI (cnO (o + (wds r.1).length + 3) rl)], 15, gfR s (n + r.1.length + 2) rl fR, hdC s c5) :: cI s (o + (wds r.1).length + 3) (n + r.1.length + 2) ((n + r.1.length + 1) :: c5) c6 rl sk fR tR
    else if r.2.2 = 1 then ([15, nI (cnN (o + (wds r.1).length + 3) rl)], 16, tR, hdC s c6) :: cI s (o + (wds r.1).length + 3) (n + r.1.length + 2) [] ((n + r.1.length + 1) :: c6) rl sk fR tR
    else [([16, sk], 15, fR, hdC s c5)])
theorem cnN_cons (o : Nat) (r : Rl) (rl : List Rl) : cnN o (r :: rl) = if r.2.2 = 2 then cnN (o + (wds r.1).length + 3) rl else o + (wds r.1).length + 1 := rfl
theorem gfR_cons (s n : Nat) (r : Rl) (rl : List Rl) (fR : Int32) : gfR s n (r :: rl) fR = if r.2.2 = 2 then gfR s (n + r.1.length + 2) rl fR else if r.2.2 = 1 then nI (2000 * s + (n + r.1.length + 2)) else fR := rfl
theorem cI_cons (s o n : Nat) (c5 c6 : List Nat) (r : Rl) (rl : List Rl) (sk fR tR : Int32) : cI s o n c5 c6 (r :: rl) sk fR tR = r.1 ++ ([nI (r.2.1 + 10)], 14, nI r.2.1, 0) ::
    (if r.2.2 = 2 then ([14, nI (cnO (o + (wds r.1).length + 3) rl)], 15, gfR s (n + r.1.length + 2) rl fR, hdC s c5) :: cI s (o + (wds r.1).length + 3) (n + r.1.length + 2) ((n + r.1.length + 1) :: c5) c6 rl sk fR tR
    else if r.2.2 = 1 then ([15, nI (cnN (o + (wds r.1).length + 3) rl)], 16, tR, hdC s c6) :: cI s (o + (wds r.1).length + 3) (n + r.1.length + 2) [] ((n + r.1.length + 1) :: c6) rl sk fR tR
    else [([16, sk], 15, fR, hdC s c5)]) := rfl
theorem wds_cons (x : It) (es : List It) : wds (x :: es) = x.1 ++ wds es := rfl
theorem trs_cons (x : It) (es : List It) : trs (x :: es) = x.2 :: trs es := rfl
theorem cdC_cI {s : Nat} {sk fR tR : Int32} : ∀ (rl : List Rl) (x1 x2 : Option Nat) (ws : List Int32) (n : Nat) (c5 c6 : List Nat), okRl rl → (∀ i, x1 = some i → i < ws.length) → (∀ i, x2 = some i → i < ws.length) → cdC x1 x2 ws rl ++ [16, sk] = aimA x2 (cnN ws.length rl) (aimA x1 (cnO ws.length rl) ws) ++ wds (cI s ws.length n c5 c6 rl sk fR tR) := by
  intro rl
  induction rl with
  | nil => intro x1 x2 ws n c5 c6 h; exact absurd h id
  | cons r rl ih =>
    intro x1 x2 ws n c5 c6 h h1 h2
    obtain ⟨hk, h⟩ := h
    have hl : (ws ++ (wds r.1 ++ [nI (r.2.1 + 10)])).length = ws.length + (wds r.1).length + 1 := by rw [List.length_append, List.length_append]; rfl
    have e1 : aimW x1 (ws ++ (wds r.1 ++ [nI (r.2.1 + 10)])) = aimA x1 (ws.length + (wds r.1).length + 1) ws ++ (wds r.1 ++ [nI (r.2.1 + 10)]) := by
      rw [aimW_A, hl, aimA_app h1]
    have hl1 : (aimA x1 (ws.length + (wds r.1).length + 1) ws ++ (wds r.1 ++ [nI (r.2.1 + 10)])).length = ws.length + (wds r.1).length + 1 := by rw [List.length_append, aimA_len, List.length_append]; rfl
    have h2' : ∀ i, x2 = some i → i < (aimA x1 (ws.length + (wds r.1).length + 1) ws).length := fun i hi => by rw [aimA_len]; exact h2 i hi
    have e2 : aimW x2 (aimA x1 (ws.length + (wds r.1).length + 1) ws ++ (wds r.1 ++ [nI (r.2.1 + 10)])) = aimA x2 (ws.length + (wds r.1).length + 1) (aimA x1 (ws.length + (wds r.1).length + 1) ws) ++ (wds r.1 ++ [nI (r.2.1 + 10)]) := by
      rw [aimW_A, hl1, aimA_app h2']
    rw [cI_cons, cnN_cons]
    unfold cdC
    show (if r.2.2 = 2 then cdC (some ((aimW x1 (ws ++ (wds r.1 ++ [nI (r.2.1 + 10)]))).length + 1)) x2 (aimW x1 (ws ++ (wds r.1 ++ [nI (r.2.1 + 10)])) ++ [14, 0]) rl else if r.2.2 = 1 then cdC none (some ((aimW x2 (aimW x1 (ws ++ (wds r.1 ++ [nI (r.2.1 + 10)])))).length + 1)) (aimW x2 (aimW x1 (ws ++ (wds r.1 ++ [nI (r.2.1 + 10)]))) ++ [15, 0]) rl else aimW x2 (aimW x1 (ws ++ (wds r.1 ++ [nI (r.2.1 + 10)])))) ++ [16, sk] = _
    rw [e1, e2]
    show _ = aimA x2 _ (aimA x1 (ws.length + (wds r.1).length + 1) ws) ++ _
    rcases h with ⟨h0, rfl⟩ | ⟨hop, hrl⟩
    · rw [if_neg (show ¬ r.2.2 = 2 by omega), if_neg (show ¬ r.2.2 = 1 by omega), if_neg (show ¬ r.2.2 = 2 by omega), if_neg (show ¬ r.2.2 = 2 by omega), if_neg (show ¬ r.2.2 = 1 by omega)]
      rw [wds_app, wds_cons, wds_one]
      simp only [List.append_assoc]
    · by_cases h22 : r.2.2 = 2
      · rw [if_pos h22, if_pos h22, if_pos h22]
        rw [hl1]
        generalize hA : aimA x1 (ws.length + (wds r.1).length + 1) ws = A at *
        have hl2 : (A ++ (wds r.1 ++ [nI (r.2.1 + 10)]) ++ [14, 0]).length = ws.length + (wds r.1).length + 3 := by rw [List.length_append, hl1]; rfl
        have I := ih (some (ws.length + (wds r.1).length + 1 + 1)) x2 (A ++ (wds r.1 ++ [nI (r.2.1 + 10)]) ++ [14, 0]) (n + r.1.length + 2) ((n + r.1.length + 1) :: c5) c6 hrl (fun i hi => by cases hi; rw [hl2]; omega) (fun i hi => by rw [hl2]; have := h2 i hi; omega)
        rw [I, hl2]
        have e3 : aimA (some (ws.length + (wds r.1).length + 1 + 1)) (cnO (ws.length + (wds r.1).length + 3) rl) (A ++ (wds r.1 ++ [nI (r.2.1 + 10)]) ++ [14, 0]) = A ++ ((wds r.1 ++ [nI (r.2.1 + 10)]) ++ [14, nI (cnO (ws.length + (wds r.1).length + 3) rl)]) := by
          rw [← hl1, aimA_last, List.append_assoc]
        rw [e3, aimA_app h2', wds_app, wds_cons, wds_cons]
        simp only [List.append_assoc]
      · have h21 : r.2.2 = 1 := by omega
        rw [if_neg h22, if_pos h21, if_neg h22, if_neg h22, if_pos h21]
        generalize hA : aimA x2 (ws.length + (wds r.1).length + 1) (aimA x1 (ws.length + (wds r.1).length + 1) ws) = A at *
        have hAl : A.length = ws.length := by rw [← hA, aimA_len, aimA_len]
        have hl2 : (A ++ (wds r.1 ++ [nI (r.2.1 + 10)])).length = ws.length + (wds r.1).length + 1 := by rw [List.length_append, hAl, List.length_append]; rfl
        have hl3 : (A ++ (wds r.1 ++ [nI (r.2.1 + 10)]) ++ [15, 0]).length = ws.length + (wds r.1).length + 3 := by rw [List.length_append, hl2]; rfl
        rw [hl2]
        have I := ih none (some (ws.length + (wds r.1).length + 1 + 1)) (A ++ (wds r.1 ++ [nI (r.2.1 + 10)]) ++ [15, 0]) (n + r.1.length + 2) [] ((n + r.1.length + 1) :: c6) hrl (fun i hi => by cases hi) (fun i hi => by cases hi; rw [hl3]; omega)
        rw [I, hl3]
        have e3 : aimA (some (ws.length + (wds r.1).length + 1 + 1)) (cnN (ws.length + (wds r.1).length + 3) rl) (aimA none (cnO (ws.length + (wds r.1).length + 3) rl) (A ++ (wds r.1 ++ [nI (r.2.1 + 10)]) ++ [15, 0])) = A ++ ((wds r.1 ++ [nI (r.2.1 + 10)]) ++ [15, nI (cnN (ws.length + (wds r.1).length + 3) rl)]) := by
          show aimA _ _ (A ++ (wds r.1 ++ [nI (r.2.1 + 10)]) ++ [15, 0]) = _
          rw [← hl2, aimA_last, List.append_assoc]
        rw [e3, wds_app, wds_cons, wds_cons]
        simp only [List.append_assoc]
theorem setT_left {i : Nat} {x : Int32} {a b : List Tr} (h : i < a.length) : setT i x (a ++ b) = setT i x a ++ b := by
  unfold setT
  rw [List.set_append_left _ _ h, getT_app h]
theorem setT_last {x : Int32} {a : List Tr} (t : Tr) : setT a.length x (a ++ [t]) = a ++ [(t.1, x, t.2.2)] := by
  unfold setT
  rw [snocT_eq, List.set_append_right _ _ (Nat.le_refl _), Nat.sub_self]
  rfl
theorem landT_app {x : Int32} {b : List Tr} : ∀ (c : List Nat) (a : List Tr), (∀ i, i ∈ c → i < a.length) → landT x c (a ++ b) = landT x c a ++ b := by
  intro c
  induction c with
  | nil => intro a _; rfl
  | cons i c ih =>
    intro a h
    show landT x c (setT i x (a ++ b)) = _
    rw [setT_left (h i List.mem_cons_self), ih _ (fun j hj => by rw [setT_len]; exact h j (List.mem_cons_of_mem _ hj))]
    rfl
theorem setT_comm {i j : Nat} {x y : Int32} {a : List Tr} (h : i ≠ j) : setT i x (setT j y a) = setT j y (setT i x a) := by
  have g : ∀ (k l : Nat) (z : Int32), k ≠ l → (setT k z a).getD l z3 = a.getD l z3 := fun k l z hkl => by
    unfold setT
    rw [List.getD_eq_getElem?_getD, List.getElem?_set, if_neg hkl, ← List.getD_eq_getElem?_getD]
  have e1 := g j i y (fun c => h c.symm)
  have e2 := g i j x h
  unfold setT at *
  rw [e1, e2]
  exact List.set_comm _ _ (fun c => h c.symm)
theorem landT_set {i : Nat} {x y : Int32} : ∀ (c : List Nat) (a : List Tr), i ∉ c → landT x c (setT i y a) = setT i y (landT x c a) := by
  intro c
  induction c with
  | nil => intro a _; rfl
  | cons j c ih =>
    intro a h
    have hj : i ≠ j := fun e => h (by rw [e]; exact List.mem_cons_self)
    show landT x c (setT j x (setT i y a)) = setT i y (landT x c (setT j x a))
    rw [setT_comm (fun e => hj e.symm), ih _ (fun k => h (List.mem_cons_of_mem _ k))]
theorem landT_comm {x y : Int32} : ∀ (c d : List Nat) (a : List Tr), (∀ i, i ∈ c → i ∉ d) → landT x c (landT y d a) = landT y d (landT x c a) := by
  intro c
  induction c with
  | nil => intro d a _; rfl
  | cons i c ih =>
    intro d a h
    show landT x c (setT i x (landT y d a)) = landT y d (landT x c (setT i x a))
    rw [← landT_set d a (h i List.mem_cons_self), ih d _ (fun j hj => h j (List.mem_cons_of_mem _ hj))]
theorem cdR_cI {s : Nat} {sk fR tR : Int32} : ∀ (rl : List Rl) (c5 c6 : List Nat) (cs : List Tr) (o : Nat), okRl rl → (∀ i, i ∈ c5 → i < cs.length) → (∀ i, i ∈ c6 → i < cs.length) → (∀ i, i ∈ c5 → i ∉ c6) → landT fR (cdR s c5 c6 cs rl).2.1 (landT tR (cdR s c5 c6 cs rl).2.2 (cdR s c5 c6 cs rl).1) = landT (gfR s cs.length rl fR) c5 (landT tR c6 cs) ++ trs (cI s o cs.length c5 c6 rl sk fR tR) := by
  intro rl
  induction rl with
  | nil => intro c5 c6 cs o h; exact absurd h id
  | cons r rl ih =>
    intro c5 c6 cs o h h5 h6 hd
    obtain ⟨hk, h⟩ := h
    have hl : (cs ++ (trs r.1 ++ [((14, nI r.2.1, 0) : Tr)])).length = cs.length + r.1.length + 1 := by rw [List.length_append, List.length_append, trs_len]; rfl
    rw [cI_cons, gfR_cons]
    unfold cdR
    show landT fR (if r.2.2 = 2 then cdR s ((cs ++ (trs r.1 ++ [((14, nI r.2.1, 0) : Tr)])).length :: c5) c6 (cs ++ (trs r.1 ++ [((14, nI r.2.1, 0) : Tr)]) ++ [(15, 0, hdC s c5)]) rl else if r.2.2 = 1 then cdR s [] ((cs ++ (trs r.1 ++ [((14, nI r.2.1, 0) : Tr)])).length :: c6) (landT (nI (2000 * s + ((cs ++ (trs r.1 ++ [((14, nI r.2.1, 0) : Tr)])).length + 1))) c5 (cs ++ (trs r.1 ++ [((14, nI r.2.1, 0) : Tr)]) ++ [(16, 0, hdC s c6)])) rl else _).2.1 (landT tR (if r.2.2 = 2 then cdR s ((cs ++ (trs r.1 ++ [((14, nI r.2.1, 0) : Tr)])).length :: c5) c6 (cs ++ (trs r.1 ++ [((14, nI r.2.1, 0) : Tr)]) ++ [(15, 0, hdC s c5)]) rl else if r.2.2 = 1 then cdR s [] ((cs ++ (trs r.1 ++ [((14, nI r.2.1, 0) : Tr)])).length :: c6) (landT (nI (2000 * s + ((cs ++ (trs r.1 ++ [((14, nI r.2.1, 0) : Tr)])).length + 1))) c5 (cs ++ (trs r.1 ++ [((14, nI r.2.1, 0) : Tr)]) ++ [(16, 0, hdC s c6)])) rl else _).2.2 (if r.2.2 = 2 then cdR s ((cs ++ (trs r.1 ++ [((14, nI r.2.1, 0) : Tr)])).length :: c5) c6 (cs ++ (trs r.1 ++ [((14, nI r.2.1, 0) : Tr)]) ++ [(15, 0, hdC s c5)]) rl else if r.2.2 = 1 then cdR s [] ((cs ++ (trs r.1 ++ [((14, nI r.2.1, 0) : Tr)])).length :: c6) (landT (nI (2000 * s + ((cs ++ (trs r.1 ++ [((14, nI r.2.1, 0) : Tr)])).length + 1))) c5 (cs ++ (trs r.1 ++ [((14, nI r.2.1, 0) : Tr)]) ++ [(16, 0, hdC s c6)])) rl else ((cs ++ (trs r.1 ++ [((14, nI r.2.1, 0) : Tr)])) ++ [(15, 0, hdC s c5)], (cs ++ (trs r.1 ++ [((14, nI r.2.1, 0) : Tr)])).length :: c5, c6)).1) = _
    have snoc : ∀ (x : Int32) (t : Tr) (A : List Tr), A.length = cs.length → setT (cs.length + r.1.length + 1) x (A ++ ((trs r.1 ++ [((14, nI r.2.1, 0) : Tr)]) ++ [t])) = A ++ ((trs r.1 ++ [((14, nI r.2.1, 0) : Tr)]) ++ [(t.1, x, t.2.2)]) := by
      intro x t A hA
      have hAl : (A ++ (trs r.1 ++ [((14, nI r.2.1, 0) : Tr)])).length = cs.length + r.1.length + 1 := by rw [List.length_append, hA, List.length_append, trs_len]; rfl
      rw [← List.append_assoc, ← hAl, setT_last, List.append_assoc]
    rcases h with ⟨h0, rfl⟩ | ⟨hop, hrl⟩
    · rw [if_neg (show ¬ r.2.2 = 2 by omega), if_neg (show ¬ r.2.2 = 1 by omega), if_neg (show ¬ r.2.2 = 2 by omega), if_neg (show ¬ r.2.2 = 1 by omega), if_neg (show ¬ r.2.2 = 2 by omega), if_neg (show ¬ r.2.2 = 1 by omega), hl]
      show landT fR c5 (setT (cs.length + r.1.length + 1) fR (landT tR c6 (cs ++ (trs r.1 ++ [((14, nI r.2.1, 0) : Tr)]) ++ [(15, 0, hdC s c5)]))) = _
      rw [List.append_assoc, landT_app c6 cs h6, snoc _ _ _ (landT_len _ _ _), landT_app c5 _ (fun i hi => by rw [landT_len]; exact h5 i hi), trs_app, trs_cons]
      simp only [List.append_assoc]
      rfl
    · by_cases h22 : r.2.2 = 2
      · rw [if_pos h22, if_pos h22, if_pos h22, hl]
        have hl2 : (cs ++ (trs r.1 ++ [((14, nI r.2.1, 0) : Tr)]) ++ [((15, 0, hdC s c5) : Tr)]).length = cs.length + r.1.length + 2 := by rw [List.length_append, hl]; rfl
        have I := ih ((cs.length + r.1.length + 1) :: c5) c6 (cs ++ (trs r.1 ++ [((14, nI r.2.1, 0) : Tr)]) ++ [((15, 0, hdC s c5) : Tr)]) (o + (wds r.1).length + 3) hrl (fun i hi => by rw [hl2]; rcases List.mem_cons.mp hi with e | e; omega; have := h5 i e; omega) (fun i hi => by rw [hl2]; have := h6 i hi; omega) (fun i hi => by
          rcases List.mem_cons.mp hi with e | e
          · intro g; have := h6 i g; omega
          · exact hd i e)
        rw [I, hl2]
        show landT _ c5 (setT (cs.length + r.1.length + 1) _ (landT tR c6 _)) ++ _ = _
        rw [List.append_assoc cs, landT_app c6 cs h6, snoc _ _ _ (landT_len _ _ _), landT_app c5 _ (fun i hi => by rw [landT_len]; exact h5 i hi), trs_app, trs_cons, trs_cons]
        simp only [List.append_assoc]
        rfl
      · have h21 : r.2.2 = 1 := by omega
        rw [if_neg h22, if_pos h21, if_neg h22, if_pos h21, if_neg h22, if_pos h21, hl]
        have hl2 : (landT (nI (2000 * s + (cs.length + r.1.length + 1 + 1))) c5 (cs ++ (trs r.1 ++ [((14, nI r.2.1, 0) : Tr)]) ++ [((16, 0, hdC s c6) : Tr)])).length = cs.length + r.1.length + 2 := by rw [landT_len, List.length_append, hl]; rfl
        have I := ih [] ((cs.length + r.1.length + 1) :: c6) (landT (nI (2000 * s + (cs.length + r.1.length + 1 + 1))) c5 (cs ++ (trs r.1 ++ [((14, nI r.2.1, 0) : Tr)]) ++ [((16, 0, hdC s c6) : Tr)])) (o + (wds r.1).length + 3) hrl (fun i hi => by cases hi) (fun i hi => by rw [hl2]; rcases List.mem_cons.mp hi with e | e; omega; have := h6 i e; omega) (fun i hi => by cases hi)
        rw [I, hl2]
        show landT tR c6 (setT (cs.length + r.1.length + 1) tR (landT _ c5 _)) ++ _ = _
        rw [List.append_assoc cs, landT_app c5 cs h5, snoc _ _ _ (landT_len _ _ _), landT_app c6 _ (fun i hi => by rw [landT_len]; exact h6 i hi), landT_comm c5 c6 cs hd, trs_app, trs_cons, trs_cons]
        simp only [List.append_assoc]
        rfl
