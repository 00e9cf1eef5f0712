/-! late faults: their order does not matter -/
theorem noteL_ne {x L : Nat × Int32} (hx : 1 ≤ x.1) : (noteL x L).1 ≠ 0 := by
  unfold noteL
  by_cases c0 : L.1 = 0
  · rw [if_pos c0]; omega
  · rw [if_neg c0]
    repeat (first | omega | assumption | split)
theorem noteL_comm {x y L : Nat × Int32} (hx : 1 ≤ x.1) (hy : 1 ≤ y.1) : noteL x (noteL y L) = noteL y (noteL x L) := by
  obtain ⟨a, p⟩ := x
  obtain ⟨b, q⟩ := y
  obtain ⟨c, r⟩ := L
  have e1 : p = q ↔ p.toInt = q.toInt := Int32.toInt_inj.symm
  have e2 : p = r ↔ p.toInt = r.toInt := Int32.toInt_inj.symm
  have e3 : q = r ↔ q.toInt = r.toInt := Int32.toInt_inj.symm
  have l1 := i_lt p q
  have l2 := i_lt q p
  have l3 := i_lt p r
  have l4 := i_lt r p
  have l5 := i_lt q r
  have l6 := i_lt r q
  simp only [] at hx hy
  unfold noteL
  grind
theorem noteL_idem {x L : Nat × Int32} : noteL x (noteL x L) = noteL x L := by
  obtain ⟨a, p⟩ := x
  obtain ⟨c, r⟩ := L
  have e2 : p = r ↔ p.toInt = r.toInt := Int32.toInt_inj.symm
  have l3 := i_lt p r
  have l4 := i_lt r p
  have l1 := i_lt p p
  unfold noteL
  grind
theorem adN_cons (y : Nat × Int32) (ns : List (Nat × Int32)) (L : Nat × Int32) : adN (y :: ns) L = adN ns (noteL y L) := rfl
theorem adN_comm {x : Nat × Int32} (hx : 1 ≤ x.1) (ns : List (Nat × Int32)) : ∀ (L : Nat × Int32), okNs ns → adN ns (noteL x L) = noteL x (adN ns L) := by
  induction ns with
  | nil => intro L _; rfl
  | cons y ns ih =>
    intro L h
    have hy := (h y (List.mem_cons_self)).1
    have e := noteL_comm (L := L) hy hx
    rw [adN_cons, adN_cons, e]
    exact ih _ (fun z hz => h z (List.mem_cons_of_mem _ hz))
