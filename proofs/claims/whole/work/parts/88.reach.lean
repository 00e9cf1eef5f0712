/-! the class notes a name already in reach -/
def adI (o : Option Nat) (p : Int32) (L : Nat × Int32) : Nat × Int32 := match o with
  | none => L
  | some _ => noteL (3, p) L
theorem noteIf_ok {P T s t : Nat} {L : Nat × Int32} {ws : List Int32} {nl : List (List Nat)} {sl : Nat → Nat} {u v : q_W} (E : EC T s nl sl u v) (hC : PC P t L ws u) {l : List Nat} (hl : okL l) : ∃ u', fX5_noteIfReached (lN (q2 l)) u = some ((), u') ∧ PC P t (adI (idF nl l nl.length 0) (u.1 27 t) L) ws u' ∧ frP1 P u u' := by
  have hreach := reachOf_ok E.2.2.1 E.2.2.2.1 (fun i hi => ⟨(E.2.2.2.2.2.1 i hi).1, (E.2.2.2.2.2.1 i hi).2.1⟩) hl
  unfold fX5_noteIfReached
  rw [hreach, q_b_some]
  cases h : idF nl l nl.length 0 with
  | none =>
    rw [if_pos (show ixV none < 0 by decide)]
    exact ⟨u, rfl, hC, frP1_r P u⟩
  | some i =>
    obtain ⟨_, hi, _⟩ := idF_some _ _ _ h
    have := E.2.2.1
    obtain ⟨u1, e1, a1, b1⟩ := note_st hC (3, u.1 27 t) (by show 1 ≤ 3 ∧ 3 ≤ 5; omega)
    have e1 : fX5_note 3 (u.1 27 t) u = some ((), u1) := e1
    rw [if_neg (show ¬ ixV (some i) < 0 from nI_pos (n := i) (by omega)), hC.2.2.2.2.1, e1, q_b_some]
    exact ⟨u1, rfl, a1, b1⟩
