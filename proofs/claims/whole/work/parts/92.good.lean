/-! good code: what each item is, what stands around it -/
abbrev SS : Type := Nat × Option Nat × Nat × (Nat → Nat)
abbrev AI : Type := It × SS
def itA (W : List AI) (i : Nat) : It := (W.map Prod.fst).getD i ([], z3)
def ssA (W : List AI) (e : SS) (i : Nat) : SS := (W.map Prod.snd).getD i e
def wo (W : List AI) (i : Nat) : Nat := (wds ((W.map Prod.fst).take i)).length
def tgC (W : List AI) (o j : Nat) : Int32 := nI (o + wo W j)
def tgR (s c j : Nat) : Int32 := nI (2000 * s + (c + j))
def kdI (x : It) : Int32 := x.1.getD 0 0
def exM (o : Option Nat) : Prop := o = some 8 ∨ o = some 0 ∨ o = some 1
def KX (x : It) (σ τ : SS) : Prop := exM σ.2.1 ∧ gI σ.2.2.1 σ.2.2.2 x ∧ arI x ≤ σ.1 ∧ σ.1 - arI x + 1 ≤ 40 ∧ τ = (σ.1 - arI x + 1, σ.2)
def KRel (x : It) (σ τ : SS) : Prop := ∃ k, k < 4 ∧ x = ([nI (k + 10)], 14, nI k, 0) ∧ σ.1 = 2 ∧ σ.2.1 = some 8 ∧ τ = (1, some 7, σ.2.2)
def KAnd (W : List AI) (e : SS) (o c s i : Nat) (x : It) (σ τ : SS) : Prop := σ.1 = 1 ∧ σ.2.1 = some 7 ∧ τ = (0, some 8, σ.2.2) ∧ ∃ j t f, i < j ∧ j < W.length ∧ x = ([14, tgC W o j], 15, f, t) ∧ ssA W e j = σ ∧ ((kdI (itA W j) = 14 ∨ kdI (itA W j) = 16) ∧ f = (itA W j).2.2.1 ∨ kdI (itA W j) = 15 ∧ f = tgR s c (j + 1))
def KOr (W : List AI) (e : SS) (o c s i : Nat) (x : It) (σ τ : SS) : Prop := σ.1 = 1 ∧ σ.2.1 = some 7 ∧ τ = (0, some 8, σ.2.2) ∧ ∃ j t f, i < j ∧ j < W.length ∧ x = ([15, tgC W o j], 16, f, t) ∧ ssA W e j = σ ∧ (kdI (itA W j) = 15 ∧ f = (itA W j).2.2.1 ∨ kdI (itA W j) = 16 ∧ f = tgR s c (j + 1))
def KUn (W : List AI) (e : SS) (o c s i : Nat) (x : It) (σ τ : SS) : Prop := σ.1 = 1 ∧ σ.2.1 = some 7 ∧ τ = (0, none, σ.2.2) ∧ ∃ j t, i < j ∧ j ≤ W.length ∧ x = ([16, tgC W o j], 15, tgR s c j, t) ∧ ssA W e j = (0, none, σ.2.2)
def KDeed (x : It) (σ τ : SS) : Prop := σ.1 = 0 ∧ σ.2.1 = none ∧ ∃ q, x.2 = (8, q, 0) ∧ ((x.1 = [1, q] ∧ τ = (0, some 8, σ.2.2)) ∨ ∃ ax, ax < 2 ∧ x.1 = [1, q, 2, nI ax] ∧ τ = (0, some ax, σ.2.2))
def KStr (x : It) (σ τ : SS) : Prop := ∃ k ax, k ≤ 3 ∧ ax < 2 ∧ x = ([21, nI k], 9, nI k, nI ax) ∧ σ.1 = mny k ∧ (k = 0 ∧ ax = 0 ∧ σ.2.1 = some 8 ∨ 1 ≤ k ∧ σ.2.1 = some ax) ∧ τ = (0, none, σ.2.2)
def KFor (W : List AI) (e : SS) (o c s i : Nat) (x : It) (σ τ : SS) : Prop := σ.1 = 2 ∧ σ.2.1 = some 8 ∧ σ.2.2.1 < 8 ∧ ∃ j v sl', i < j ∧ j ≤ W.length ∧ x = ([18, nI σ.2.2.1, tgC W o j], 10, nI v, tgR s c j) ∧ 2 ≤ v ∧ v < 8 ∧ (∀ k, k < σ.2.2.1 → sl' k = σ.2.2.2 k ∧ σ.2.2.2 k < v) ∧ sl' σ.2.2.1 = v ∧ τ = (0, none, σ.2.2.1 + 1, sl') ∧ ssA W e j = (0, none, σ.2.2)
def KTurn (x : It) (σ τ : SS) : Prop := σ.1 = 0 ∧ σ.2.1 = none ∧ τ = σ ∧ ∃ q, x = ([19, q], 11, q, 0)
def KNext (W : List AI) (e : SS) (o c s i : Nat) (x : It) (σ τ : SS) : Prop := σ.1 = 0 ∧ σ.2.1 = none ∧ ∃ j n sl, j < i ∧ i < W.length ∧ σ.2.2.1 = n + 1 ∧ x = ([20, nI n, tgC W o j], 12, nI (σ.2.2.2 n), tgR s c j) ∧ τ = (0, none, n, sl) ∧ (∀ k, k < n → sl k = σ.2.2.2 k) ∧ ssA W e j = σ ∧ (itA W j).2.1 = 11 ∧ 2 ≤ σ.2.2.2 n
def KJmp (W : List AI) (e : SS) (o c s i : Nat) (x : It) (σ : SS) : Prop := σ.1 = 0 ∧ σ.2.1 = none ∧ ∃ j t, i < j ∧ j ≤ W.length ∧ x = ([17, tgC W o j], 13, tgR s c j, t) ∧ ssA W e j = σ
def KDo (pm : Nat → Nat) (p : Nat) (x : It) (σ τ : SS) : Prop := ∃ q, q < p ∧ x = ([22, nI q], 17, nI q, nI (pm q)) ∧ σ.1 = pm q ∧ σ.2.1 = some 8 ∧ τ = (0, none, σ.2.2)
def LOK (W : List AI) (e : SS) (o c s : Nat) (pm : Nat → Nat) (p i : Nat) (x : It) (σ τ : SS) : Prop := KX x σ τ ∨ KRel x σ τ ∨ KAnd W e o c s i x σ τ ∨ KOr W e o c s i x σ τ ∨ KUn W e o c s i x σ τ ∨ KDeed x σ τ ∨ KStr x σ τ ∨ KFor W e o c s i x σ τ ∨ KTurn x σ τ ∨ KNext W e o c s i x σ τ ∨ KJmp W e o c s i x σ ∨ KDo pm p x σ τ
/-- good from a to b -/
def GP (W : List AI) (e : SS) (o c s : Nat) (pm : Nat → Nat) (p a b : Nat) : Prop := ∀ i, a ≤ i → i < b → LOK W e o c s pm p i (itA W i) (ssA W e i) (ssA W e (i + 1))
def GD (W : List AI) (e : SS) (o c s : Nat) (pm : Nat → Nat) (p : Nat) : Prop := GP W e o c s pm p 0 W.length
theorem GP_join {W : List AI} {e : SS} {o c s : Nat} {pm : Nat → Nat} {p a b d : Nat} (h : GP W e o c s pm p a b) (h' : GP W e o c s pm p b d) : GP W e o c s pm p a d := fun i ha hd => by
  by_cases hb : i < b
  · exact h i ha hb
  · exact h' i (by omega) hd
theorem GP_one {W : List AI} {e : SS} {o c s : Nat} {pm : Nat → Nat} {p a : Nat} (h : LOK W e o c s pm p a (itA W a) (ssA W e a) (ssA W e (a + 1))) : GP W e o c s pm p a (a + 1) := fun i h1 h2 => by
  obtain rfl : i = a := by omega
  exact h
theorem getD_mid {α : Type} {X Y Z : List α} {d d' : α} {i : Nat} (h : i < Y.length) : (X ++ (Y ++ Z)).getD (X.length + i) d = Y.getD i d' := by
  rw [List.getD_eq_getElem?_getD, List.getElem?_append_right (by omega), show X.length + i - X.length = i by omega, List.getElem?_append_left h, List.getD_eq_getElem?_getD, List.getElem?_eq_getElem h]
  rfl
theorem itA_mid {X Y Z : List AI} {i : Nat} (h : i < Y.length) : itA (X ++ (Y ++ Z)) (X.length + i) = itA Y i := by
  unfold itA
  rw [List.map_append, List.map_append, ← List.length_map (f := Prod.fst) (as := X)]
  exact getD_mid (by rw [List.length_map]; exact h)
theorem ssA_mid {X Y Z : List AI} {e e' : SS} {i : Nat} (h : i < Y.length) : ssA (X ++ (Y ++ Z)) e' (X.length + i) = ssA Y e i := by
  unfold ssA
  rw [List.map_append, List.map_append, ← List.length_map (f := Prod.snd) (as := X)]
  exact getD_mid (by rw [List.length_map]; exact h)
theorem ssA_end (W : List AI) (e : SS) : ssA W e W.length = e := by
  unfold ssA
  rw [List.getD_eq_getElem?_getD, List.getElem?_eq_none (by rw [List.length_map]; exact Nat.le_refl _)]
  rfl
theorem ssA_mid' {X Y Z : List AI} {e e' : SS} {i : Nat} (he : ssA (X ++ (Y ++ Z)) e' (X.length + Y.length) = e) (h : i ≤ Y.length) : ssA (X ++ (Y ++ Z)) e' (X.length + i) = ssA Y e i := by
  by_cases c : i = Y.length
  · subst c; rw [he, ssA_end]
  · exact ssA_mid (by omega)
theorem wo_mid {X Y Z : List AI} {i : Nat} (h : i ≤ Y.length) : wo (X ++ (Y ++ Z)) (X.length + i) = (wds (X.map Prod.fst)).length + wo Y i := by
  unfold wo
  rw [List.map_append, List.map_append, List.take_append, List.length_map, show X.length + i - X.length = i by omega, List.take_of_length_le (by rw [List.length_map]; omega), List.take_append, List.length_map, show i - Y.length = 0 by omega, List.take_zero, List.append_nil, wds_app, List.length_append]
theorem wo_0 (W : List AI) : wo W 0 = 0 := rfl
theorem wo_len (W : List AI) : wo W W.length = (wds (W.map Prod.fst)).length := by
  unfold wo
  rw [List.take_of_length_le (by rw [List.length_map]; exact Nat.le_refl _)]
theorem GP_emb {X Y Z : List AI} {e e' : SS} {o c s : Nat} {pm : Nat → Nat} {p : Nat} (he : ssA (X ++ (Y ++ Z)) e' (X.length + Y.length) = e) (h : GD Y e (o + (wds (X.map Prod.fst)).length) (c + X.length) s pm p) : GP (X ++ (Y ++ Z)) e' o c s pm p X.length (X.length + Y.length) := by
  intro i hi1 hi2
  obtain ⟨a, rfl⟩ : ∃ a, i = X.length + a := ⟨i - X.length, by omega⟩
  have ha : a < Y.length := by omega
  have hl : X.length + Y.length ≤ (X ++ (Y ++ Z)).length := by rw [List.length_append, List.length_append]; omega
  have tc : ∀ j, j ≤ Y.length → tgC Y (o + (wds (X.map Prod.fst)).length) j = tgC (X ++ (Y ++ Z)) o (X.length + j) := fun j hj => by
    unfold tgC
    rw [wo_mid hj, Nat.add_assoc]
  have tr : ∀ j, tgR s (c + X.length) j = tgR s c (X.length + j) := fun j => by
    unfold tgR
    rw [Nat.add_assoc c]
  have ss : ∀ j, j ≤ Y.length → ssA Y e j = ssA (X ++ (Y ++ Z)) e' (X.length + j) := fun j hj => (ssA_mid' he hj).symm
  have it : ∀ j, j < Y.length → itA Y j = itA (X ++ (Y ++ Z)) (X.length + j) := fun j hj => (itA_mid hj).symm
  have h := h a (Nat.zero_le _) ha
  rw [it a ha, ss a (by omega), ss (a + 1) (by omega), ← Nat.add_assoc] at h
  rcases h with h | h | h | h | h | h | h | h | h | h | h | h
  · exact Or.inl h
  · exact Or.inr (Or.inl h)
  · obtain ⟨h1, h1', h2, j, t, f, h3, h4, h5, h6, h7⟩ := h
    rw [tc j (by omega)] at h5
    rw [ss j (by omega)] at h6
    rw [it j h4, tr, ← Nat.add_assoc] at h7
    exact Or.inr (Or.inr (Or.inl ⟨h1, h1', h2, X.length + j, t, f, by omega, by omega, h5, h6, h7⟩))
  · obtain ⟨h1, h1', h2, j, t, f, h3, h4, h5, h6, h7⟩ := h
    rw [tc j (by omega)] at h5
    rw [ss j (by omega)] at h6
    rw [it j h4, tr, ← Nat.add_assoc] at h7
    exact Or.inr (Or.inr (Or.inr (Or.inl ⟨h1, h1', h2, X.length + j, t, f, by omega, by omega, h5, h6, h7⟩)))
  · obtain ⟨h1, h1', h2, j, t, h3, h4, h5, h6⟩ := h
    rw [tc j h4, tr] at h5
    rw [ss j h4] at h6
    exact Or.inr (Or.inr (Or.inr (Or.inr (Or.inl ⟨h1, h1', h2, X.length + j, t, by omega, by omega, h5, h6⟩))))
  · exact Or.inr (Or.inr (Or.inr (Or.inr (Or.inr (Or.inl h)))))
  · exact Or.inr (Or.inr (Or.inr (Or.inr (Or.inr (Or.inr (Or.inl h))))))
  · obtain ⟨h1, h2, h3, j, v, sl', h4, h5, h6, h7, h8, h9, h10, h11, h12⟩ := h
    rw [tc j h5, tr] at h6
    rw [ss j h5] at h12
    exact Or.inr (Or.inr (Or.inr (Or.inr (Or.inr (Or.inr (Or.inr (Or.inl ⟨h1, h2, h3, X.length + j, v, sl', by omega, by omega, h6, h7, h8, h9, h10, h11, h12⟩)))))))
  · exact Or.inr (Or.inr (Or.inr (Or.inr (Or.inr (Or.inr (Or.inr (Or.inr (Or.inl h))))))))
  · obtain ⟨h1, h2, j, n, sl, h3, h4, h5, h6, h7, h8, h9, h10⟩ := h
    rw [tc j (by omega), tr] at h6
    rw [ss j (by omega)] at h9
    rw [it j (by omega)] at h10
    exact Or.inr (Or.inr (Or.inr (Or.inr (Or.inr (Or.inr (Or.inr (Or.inr (Or.inr (Or.inl ⟨h1, h2, X.length + j, n, sl, by omega, by omega, h5, h6, h7, h8, h9, h10⟩)))))))))
  · obtain ⟨h1, h2, j, t, h3, h4, h5, h6⟩ := h
    rw [tc j h4, tr] at h5
    rw [ss j h4] at h6
    exact Or.inr (Or.inr (Or.inr (Or.inr (Or.inr (Or.inr (Or.inr (Or.inr (Or.inr (Or.inr (Or.inl ⟨h1, h2, X.length + j, t, by omega, by omega, h5, h6⟩))))))))))
  · exact Or.inr (Or.inr (Or.inr (Or.inr (Or.inr (Or.inr (Or.inr (Or.inr (Or.inr (Or.inr (Or.inr h))))))))))
theorem GD_app {X Y : List AI} {e : SS} {o c s : Nat} {pm : Nat → Nat} {p : Nat} (h : GD X (ssA Y e 0) o c s pm p) (h' : GD Y e (o + (wds (X.map Prod.fst)).length) (c + X.length) s pm p) : GD (X ++ Y) e o c s pm p := by
  have h1 : GP ([] ++ (X ++ Y)) e o c s pm p 0 (0 + X.length) := GP_emb (X := []) (Y := X) (Z := Y) (by
    by_cases hY : Y.length = 0
    · have : Y = [] := List.eq_nil_of_length_eq_zero hY
      subst this
      show ssA ([] ++ (X ++ [])) e (0 + X.length) = ssA [] e 0
      rw [List.nil_append, List.append_nil, Nat.zero_add, ssA_end]
      rfl
    · have := ssA_mid (X := X) (Y := Y) (Z := []) (e := e) (e' := e) (i := 0) (by omega)
      rw [List.append_nil] at this
      show ssA ([] ++ (X ++ Y)) e (0 + X.length) = _
      rw [List.nil_append, Nat.zero_add]
      exact this) h
  have h2 : GP (X ++ (Y ++ [])) e o c s pm p X.length (X.length + Y.length) := GP_emb (by
    rw [List.append_nil, ← List.length_append, ssA_end]) h'
  rw [List.nil_append, Nat.zero_add] at h1
  rw [List.append_nil] at h2
  unfold GD
  rw [List.length_append]
  exact GP_join h1 h2
theorem GD_one {x : It} {σ e : SS} {o c s : Nat} {pm : Nat → Nat} {p : Nat} (h : LOK [(x, σ)] e o c s pm p 0 x σ e) : GD [(x, σ)] e o c s pm p := GP_one h
theorem GD_nil {e : SS} {o c s : Nat} {pm : Nat → Nat} {p : Nat} : GD [] e o c s pm p := fun i _ h => absurd h (Nat.not_lt_zero i)
/-- an expression's list with its heights -/
def annE (h : Nat) (r : Option Nat × Nat × (Nat → Nat)) (es : List It) : List AI := match es with
  | [] => []
  | x :: es => (x, (h, r)) :: annE (h - arI x + 1) r es
theorem annE_map (r : Option Nat × Nat × (Nat → Nat)) : ∀ (es : List It) (h : Nat), (annE h r es).map Prod.fst = es := by
  intro es
  induction es with
  | nil => intro h; rfl
  | cons x es ih => intro h; show x :: (annE _ r es).map Prod.fst = _; rw [ih]
theorem annE_len (r : Option Nat × Nat × (Nat → Nat)) (es : List It) (h : Nat) : (annE h r es).length = es.length := by
  have := congrArg List.length (annE_map r es h)
  rw [List.length_map] at this
  exact this
theorem annE_0 {r : Option Nat × Nat × (Nat → Nat)} {es : List It} {h h' : Nat} (hg : HG 40 es h h') : ssA (annE h r es) (h', r) 0 = (h, r) := by
  cases es with
  | nil => rw [show h = h' from hg]; rfl
  | cons x es => rfl
theorem annE_GD {r : Option Nat × Nat × (Nat → Nat)} {s : Nat} {pm : Nat → Nat} {p h' : Nat} : ∀ (es : List It) (h o c : Nat), HG 40 es h h' → exM r.1 → (∀ x, x ∈ es → gI r.2.1 r.2.2 x) → GD (annE h r es) (h', r) o c s pm p := by
  intro es
  induction es with
  | nil => intro h o c _ _ _; exact GD_nil
  | cons x es ih =>
    intro h o c hg hm hx
    obtain ⟨g1, g2, g3⟩ := hg
    refine GD_app (X := [(x, (h, r))]) (Y := annE (h - arI x + 1) r es) (GD_one (Or.inl ⟨hm, hx x List.mem_cons_self, g1, g2, ?_⟩)) (ih _ _ _ g3 hm (fun y hy => hx y (List.mem_cons_of_mem _ hy)))
    rw [annE_0 g3]
