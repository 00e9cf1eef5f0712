/-! the reference's jumps that wait for their end -/
def setT (i : Nat) (x : Int32) (cs : List Tr) : List Tr := cs.set i ((cs.getD i z3).1, x, (cs.getD i z3).2.2)
theorem setT_len (i : Nat) (x : Int32) (cs : List Tr) : (setT i x cs).length = cs.length := List.length_set
theorem setT_at {i j : Nat} {x : Int32} {cs : List Tr} (hi : i < cs.length) : (setT i x cs).getD j z3 = if i = j then ((cs.getD i z3).1, x, (cs.getD i z3).2.2) else cs.getD j z3 := by
  unfold setT
  rw [List.getD_eq_getElem?_getD (i := j), List.getElem?_set]
  by_cases e : i = j
  · subst e
    rw [if_pos rfl, if_pos hi, if_pos rfl]; rfl
  · rw [if_neg e, if_neg e, ← List.getD_eq_getElem?_getD]
/-- the last of a chain; -1 where it is empty -/
def hdC (s : Nat) (c : List Nat) : Int32 := match c with
  | [] => -1
  | i :: _ => nI (2000 * s + i)
def CHN (s : Nat) (cs : List Tr) (c : List Nat) : Prop := match c with
  | [] => True
  | i :: c => i < cs.length ∧ (cs.getD i z3).2.2 = hdC s c ∧ CHN s cs c
def landT (x : Int32) (c : List Nat) (cs : List Tr) : List Tr := match c with
  | [] => cs
  | i :: c => landT x c (setT i x cs)
theorem landT_len (x : Int32) : ∀ (c : List Nat) (cs : List Tr), (landT x c cs).length = cs.length := by
  intro c
  induction c with
  | nil => intro cs; rfl
  | cons i c ih => intro cs; exact (ih _).trans (setT_len i x cs)
theorem CHN_set {s i : Nat} {x : Int32} : ∀ (c : List Nat) (cs : List Tr), i < cs.length → CHN s cs c → CHN s (setT i x cs) c := by
  intro c
  induction c with
  | nil => intro cs _ _; trivial
  | cons j c ih =>
    intro cs hi h
    obtain ⟨a, b, d⟩ := h
    refine ⟨by rw [setT_len]; exact a, ?_, ih cs hi d⟩
    rw [setT_at hi]
    by_cases e : i = j
    · subst e; rw [if_pos rfl]; exact b
    · rw [if_neg e]; exact b
theorem getT_app {l m : List Tr} {i : Nat} (h : i < l.length) : (l ++ m).getD i z3 = l.getD i z3 := by
  rw [List.getD_eq_getElem?_getD, List.getD_eq_getElem?_getD, List.getElem?_append_left h]
theorem CHN_app {s : Nat} (m : List Tr) : ∀ (c : List Nat) (cs : List Tr), CHN s cs c → CHN s (cs ++ m) c := by
  intro c
  induction c with
  | nil => intro cs _; trivial
  | cons j c ih =>
    intro cs h
    obtain ⟨a, b, d⟩ := h
    exact ⟨by rw [List.length_append]; omega, by rw [getT_app a]; exact b, ih cs d⟩
theorem land_one {s t op i : Nat} {L : Nat × Int32} {cs : List Tr} {W : List Nat} {v : q_W} (h : PR s t L cs W op v) (hl : cs.length ≤ 2000) (hi : i < cs.length) : PR s t L (setT i (nI (2000 * s + cs.length)) cs) W op (q_sI v 13 (2000 * s + i) (nI (2000 * s + cs.length))) ∧ frR1 s v (q_sI v 13 (2000 * s + i) (nI (2000 * s + cs.length))) := by
  obtain ⟨h1, h2, h3, h4, h5, h6, h7, h8⟩ := h
  refine ⟨⟨h1, ?_, ?_, ?_, fun g => ?_, ⟨?_, fun j hj => ?_⟩, ⟨?_, h7.2.1, fun j hj => ?_⟩, ?_⟩, ⟨fun q a b c d e => ?_, fun k a b c => ?_, fun j hj => ?_, rfl⟩⟩
  · rw [sI_cell _ _ _ _ _ (by decide), h2]
  · rw [sI_cell _ _ _ _ _ (by decide), h3]
  · rw [sI_cell _ _ _ _ _ (by decide), h4]
  · rw [sI_cell _ _ _ _ _ (by decide), h5 g]
  · rw [sI_cell _ _ _ _ _ (by decide), setT_len, h6.1]
  · rw [setT_len] at hj
    obtain ⟨a, b, c⟩ := h6.2 j hj
    rw [sI_cell _ _ _ _ 12 (by decide), sI_cell _ _ _ _ 14 (by decide), setT_at hi, a, c]
    by_cases e : i = j
    · subst e
      rw [sI_same, if_pos rfl]
      exact ⟨rfl, rfl, rfl⟩
    · rw [sI_k _ _ _ _ _ (by omega), if_neg e, b]
      exact ⟨rfl, rfl, rfl⟩
  · rw [sI_cell _ _ _ _ _ (by decide), h7.1]
  · rw [sI_cell _ _ _ _ _ (by decide), h7.2.2 j hj]
  · rw [sI_cell _ _ _ _ _ (by decide), h8]
  · rw [sI_cell _ _ _ _ _ c]
  · rw [sI_cell _ _ _ _ _ (by decide)]
  · rw [sI_cell _ _ _ _ 12 (by decide), sI_cell _ _ _ _ 14 (by decide), sI_k _ _ _ _ _ (by omega)]
    exact ⟨rfl, rfl, rfl⟩
theorem lands_lok {s t op : Nat} {L : Nat × Int32} {W : List Nat} : ∀ (c : List Nat) (N : Nat) (cs : List Tr) (v : q_W), c.length < N → cs.length ≤ 2000 → CHN s cs c → PR s t L cs W op v → ∃ v', q_it N fX11_lands_h2 (fun _ _ => none) (hdC s c) v = some ((), v') ∧ PR s t L (landT (nI (2000 * s + cs.length)) c cs) W op v' ∧ frR1 s v v' := by
  intro c
  induction c with
  | nil =>
    intro N cs v hN hl hc h
    obtain ⟨N, rfl⟩ : ∃ M, N = M + 1 := ⟨N - 1, by omega⟩
    rw [q_itS, fX11_lands_h2, if_pos (show hdC s [] = -1 from rfl)]
    exact ⟨v, rfl, h, frR1_r s v⟩
  | cons i c ih =>
    intro N cs v hN hl hc h
    obtain ⟨N, rfl⟩ : ∃ M, N = M + 1 := ⟨N - 1, by omega⟩
    obtain ⟨a, b, d⟩ := hc
    have hs := h.1
    obtain ⟨x, y⟩ := land_one h hl a
    obtain ⟨_, _, q3⟩ := h.2.2.2.2.2.1.2 i a
    obtain ⟨v', e1, a1, b1⟩ := ih N _ _ (by simp at hN; omega) (by rw [setT_len]; exact hl) (CHN_set c cs a d) x
    rw [q_itS, fX11_lands_h2, if_neg (show ¬ hdC s (i :: c) = -1 from fun q => nI_pos (n := 2000 * s + i) (by omega) (by rw [show nI (2000 * s + i) = -1 from q]; decide))]
    rw [show hdC s (i :: c) = nI (2000 * s + i) from rfl]
    rw [if_pos (q_inb_nI (by omega) (by omega)), q_lt_eq, if_pos (q_inb_nI (by omega) (by omega)), q_lt_eq, q_ix_nI (by omega), h.2.2.2.2.2.1.1, q3, b]
    rw [setT_len] at a1
    exact ⟨v', e1, a1, frR1_t y b1⟩
theorem lands_ok {s t op : Nat} {L : Nat × Int32} {W : List Nat} {c : List Nat} {cs : List Tr} {v : q_W} (h : PR s t L cs W op v) (hl : cs.length ≤ 2000) (hc : c.length ≤ 2000) (hh : CHN s cs c) : ∃ v', fX11_lands (hdC s c) v = some ((), v') ∧ PR s t L (landT (nI (2000 * s + cs.length)) c cs) W op v' ∧ frR1 s v v' := by
  unfold fX11_lands fX11_lands_l2
  exact lands_lok c q_N cs v (Nat.lt_of_le_of_lt hc (Nat.le_of_ble_eq_true rfl)) hl hh h
