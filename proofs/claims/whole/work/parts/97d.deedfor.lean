/-! a for among deeds -/
def tfE (y1 a1 : Int32) (w11 : q_W) : Option (Unit × q_W) :=
  if (w11.1 0 13) ≤ 0 then
    q_b (fX11_reaches y1 w11) fun _ w13 =>
    q_lt (w13.1 0 30) fun y14 =>
    if q_inb y14 8 then
    q_lt (q_sI w13 16 (q_ix y14) 1) fun w15 =>
    q_lt (w15.1 0 30) fun y16 =>
    if q_inb y16 8 then
    q_lt (q_sI w15 17 (q_ix y16) (w15.1 0 24)) fun w17 =>
    q_lt (w17.1 0 30) fun y18 =>
    if q_inb y18 8 then
    q_lt (q_sI w17 18 (q_ix y18) (1 + (w17.1 0 30))) fun w19 =>
    q_lt ((w19.1 0 28) - 1) fun y20 =>
    if q_inb y20 8 then
    q_lt (q_sI w19 19 (q_ix y20) (1 + (w19.1 0 30))) fun w21 =>
    q_b (fX11_emit 10 (1 + (w21.1 0 30)) 0 w21) fun _ w23 =>
    q_b (fX11_emit 11 a1 0 w23) fun _ w25 =>
    q_lt (q_sI w25 0 30 ((w25.1 0 30) + 1)) fun w26 =>
    some ((), w26)
    else none
    else none
    else none
    else none
  else
    some ((), w11)
def tfD (y1 a1 : Int32) (w9 : q_W) : Option (Unit × q_W) := q_b (fX11_expression w9) fun _ w11 => tfE y1 a1 w11
def tfC (y1 a1 : Int32) (w7 : q_W) : Option (Unit × q_W) := q_b (fX11_must 27 w7) fun _ w9 => tfD y1 a1 w9
def tfB (y1 a1 : Int32) (w5 : q_W) : Option (Unit × q_W) := q_b (fX11_expression w5) fun _ w7 => tfC y1 a1 w7
def tfA (y1 a1 : Int32) (w3 : q_W) : Option (Unit × q_W) := q_b (fX11_must 17 w3) fun _ w5 => tfB y1 a1 w5
theorem tf_eq (a1 : Int32) (w : q_W) : fX11_tellFor a1 w = q_b (fX11_must 1 w) fun _ w3 => tfA (w.1 0 11) a1 w3 := by
  unfold fX11_tellFor tfA tfB tfC tfD tfE
  rfl
theorem tfE_F {s f m : Nat} {p : Int32} {v : q_W} (h : FR s f p m v) (y a : Int32) : tfE y a v = some ((), v) := by
  unfold tfE
  rw [h.2.2.2.1, if_neg (nI_nle (by have := h.2.1; omega) (by have := h.2.2.1; omega))]
theorem tfD_F {s f m : Nat} {p : Int32} {v : q_W} (h : FR s f p m v) (y a : Int32) : tfD y a v = some ((), v) := by
  unfold tfD
  rw [expr_F h, q_b_some, tfE_F h]
theorem tfC_F {s f m : Nat} {p : Int32} {v : q_W} (h : FR s f p m v) (y a : Int32) : tfC y a v = some ((), v) := by
  unfold tfC
  rw [must_F h, q_b_some, tfD_F h]
theorem tfB_F {s f m : Nat} {p : Int32} {v : q_W} (h : FR s f p m v) (y a : Int32) : tfB y a v = some ((), v) := by
  unfold tfB
  rw [expr_F h, q_b_some, tfC_F h]
theorem tfA_F {s f m : Nat} {p : Int32} {v : q_W} (h : FR s f p m v) (y a : Int32) : tfA y a v = some ((), v) := by
  unfold tfA
  rw [must_F h, q_b_some, tfB_F h]
theorem toks_H {T P s : Nat} {u u' v v' : q_W} (hP : isP P) (h : toks T u v) (f : frE P u u') (g : frH s v v') : toks T u' v' := by
  have hne := isP_ne hP
  unfold toks tokOK at *
  rw [f.1 26 (by decide) (by omega) (by omega), f.1 27 (by decide) (by omega) (by omega), f.2.2.2.2 28 (by decide), g.1 3 (by decide) (by decide) (by decide) (by decide) (by decide) (by decide) (by decide) (by decide) (by decide), g.1 4 (by decide) (by decide) (by decide) (by decide) (by decide) (by decide) (by decide) (by decide) (by decide), g.1 5 (by decide) (by decide) (by decide) (by decide) (by decide) (by decide) (by decide) (by decide) (by decide), g.2.2.2.2 6 (by decide)]
  exact h
theorem PC_3 {P t : Nat} {L : Nat × Int32} {ws : List Int32} {u : q_W} (h : PC P t L ws u) (x : Int32) : PC P t L ws (q_sI u 23 3 x) := by
  obtain ⟨h1, h2, h3, h4, h5, h6, h7, h8, h9, h10, h11⟩ := h
  have hne := isP_ne h1
  exact ⟨h1, h2, by rw [sI_k _ _ _ _ _ (by decide), h3], by rw [sI_k _ _ _ _ _ (by decide), sI_cell _ _ _ _ 26 (by decide), h4], by rw [sI_k _ _ _ _ _ (by decide), sI_cell _ _ _ _ 27 (by decide), h5], by rw [sI_k _ _ _ _ _ (by decide), h6], by rw [sI_k _ _ _ _ _ (by decide), h7], h8, fun c => by rw [sI_k _ _ _ _ _ (by decide), h9 c], by rw [sI_cell _ _ _ _ _ hne.1, h10], fun i hi => by rw [sI_cell _ _ _ _ _ hne.2.1, h11 i hi]⟩
theorem gN_snoc {nl : List (List Nat)} {l : List Nat} {i : Nat} : gN (nl ++ [l]) i = if i = nl.length then l else gN nl i := by
  unfold gN
  by_cases e : i = nl.length
  · rw [if_pos e, e, List.getD_eq_getElem?_getD, List.getElem?_append_right (Nat.le_refl _), Nat.sub_self]; rfl
  · rw [if_neg e, List.getD_eq_getElem?_getD, List.getD_eq_getElem?_getD]
    by_cases h : i < nl.length
    · rw [List.getElem?_append_left h]
    · rw [List.getElem?_eq_none (by rw [List.length_append]; show nl.length + 1 ≤ i; omega), List.getElem?_eq_none (by omega)]
theorem ndp_snoc {nl : List (List Nat)} {l : List Nat} (h : ndp nl) (hn : ∀ i, i < nl.length → gN nl i ≠ l) : ndp (nl ++ [l]) := by
  intro i j hi hj e
  rw [List.length_append] at hi hj
  have hi : i < nl.length + 1 := hi
  have hj : j < nl.length + 1 := hj
  rw [gN_snoc, gN_snoc] at e
  by_cases ci : i = nl.length
  · by_cases cj : j = nl.length
    · omega
    · rw [if_pos ci, if_neg cj] at e
      exact absurd e.symm (hn j (by omega))
  · by_cases cj : j = nl.length
    · rw [if_neg ci, if_pos cj] at e
      exact absurd e (hn i (by omega))
    · rw [if_neg ci, if_neg cj] at e
      exact h i j (by omega) (by omega) e
/-- the notes of a name already in reach -/
def ntI (o : Option Nat) (p : Int32) : List (Nat × Int32) := match o with
  | none => []
  | some _ => [(3, p)]
theorem adI_nt (o : Option Nat) (p : Int32) (L : Nat × Int32) : adI o p L = adN (ntI o p) L := by cases o <;> rfl
theorem ntI_ok (o : Option Nat) (p : Int32) : okNs (ntI o p) := by
  cases o with
  | none => exact okNs_nil
  | some i => exact okNs_one (by show 1 ≤ 3 ∧ 3 ≤ 5; omega)
theorem adI_late (o : Option Nat) (p : Int32) (ns : List (Nat × Int32)) (L : Nat × Int32) (h : okNs ns) : adI o p (adN ns L) = adN (ntI o p ++ ns) L := by
  cases o with
  | none => rfl
  | some i =>
    show noteL (3, p) (adN ns L) = adN ns (noteL (3, p) L)
    rw [adN_comm (by show 1 ≤ 3; omega) ns L h]
theorem EC_less {T s : Nat} {nl : List (List Nat)} {l : List Nat} {sl sl' : Nat → Nat} {u v u' v' : q_W} (h : EC T s (nl ++ [l]) sl' u v) (hs : ∀ i, i < nl.length → sl' i = sl i) (ht : toks T u' v') (h3 : u'.1 23 3 = nI nl.length) (h28 : v'.1 0 28 = nI nl.length) (a1 : u'.2.2 30 = u.2.2 30) (a2 : v'.2.2 15 = v.2.2 15) (a3 : v'.1 0 19 = v.1 0 19) (a4 : v'.1 8 = v.1 8) (a5 : v'.1 10 = v.1 10) (a6 : v'.1 19 = v.1 19) : EC T s nl sl u' v' := by
  obtain ⟨_, k2, k3, _, _, k6, k7, c, many, k8, k9, k10, k11, k12⟩ := h
  rw [List.length_append] at k3 k6 k12
  have k3 : nl.length + 1 ≤ 8 := k3
  refine ⟨ht, k2, by omega, h3, h28, fun i hi => ?_, by rw [a3, k7], c, many, k8, by rw [a4, k9], by rw [a5, k10], k11, fun i hi => ?_⟩
  · have := k6 i (show i < nl.length + 1 by omega)
    rw [gN_snoc, if_neg (by omega)] at this
    rw [a1, a2]
    exact this
  · have := k12 i (show i < nl.length + 1 by omega)
    rw [hs i hi] at this
    rw [a6]
    exact this
