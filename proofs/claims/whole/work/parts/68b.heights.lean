/-! how high an expression's pile is -/
def arI (x : It) : Nat := if x.2.1 = 0 then 0 else if x.2.1 = 1 then 0 else if x.2.1 = 7 then 1 else 2
def HG (B : Nat) (es : List It) (h h' : Nat) : Prop := match es with
  | [] => h = h'
  | x :: es => arI x ≤ h ∧ h - arI x + 1 ≤ B ∧ HG B es (h - arI x + 1) h'
theorem HG_app {B : Nat} {b : List It} {m h' : Nat} (hb : HG B b m h') : ∀ (a : List It) (h : Nat), HG B a h m → HG B (a ++ b) h h' := by
  intro a
  induction a with
  | nil => intro h ha; rw [show h = m from ha]; exact hb
  | cons x a ih => intro h ha; exact ⟨ha.1, ha.2.1, ih _ ha.2.2⟩
theorem HG_split {B : Nat} {b : List It} {h' : Nat} : ∀ (a : List It) (h : Nat), HG B (a ++ b) h h' → ∃ m, HG B a h m ∧ HG B b m h' := by
  intro a
  induction a with
  | nil => intro h ha; exact ⟨h, rfl, ha⟩
  | cons x a ih =>
    intro h ha
    obtain ⟨m, h1, h2⟩ := ih _ ha.2.2
    exact ⟨m, ⟨ha.1, ha.2.1, h1⟩, h2⟩
theorem arI_op (k : Nat) : arI (opIt k) = 2 := by
  unfold opIt
  by_cases h1 : k = 8
  · rw [if_pos h1]; rfl
  · rw [if_neg h1]
    by_cases h2 : k = 9
    · rw [if_pos h2]; rfl
    · rw [if_neg h2]
      by_cases h3 : k = 10
      · rw [if_pos h3]; rfl
      · rw [if_neg h3]
        by_cases h4 : k = 15
        · rw [if_pos h4]; rfl
        · rw [if_neg h4]; rfl
theorem HG_ops0 {B h : Nat} (h1 : 1 ≤ h) : ∀ q : List Nat, h + q.length ≤ B + 1 → HG B (q.map opIt) (h + q.length) h := by
  intro q
  induction q with
  | nil => intro _; rfl
  | cons k q ih =>
    intro hb
    have hb : h + (q.length + 1) ≤ B + 1 := hb
    show arI (opIt k) ≤ h + (q.length + 1) ∧ h + (q.length + 1) - arI (opIt k) + 1 ≤ B ∧ HG B (q.map opIt) (h + (q.length + 1) - arI (opIt k) + 1) h
    rw [arI_op, show h + (q.length + 1) - 2 + 1 = h + q.length by omega]
    exact ⟨by omega, by omega, ih (by omega)⟩
theorem HG_ops {B h : Nat} (h1 : 1 ≤ h) (pd : List Nat) (hb : h + pd.length ≤ B + 1) : HG B (opIts pd) (h + pd.length) h := by
  have := HG_ops0 (B := B) h1 pd.reverse (by rw [List.length_reverse]; exact hb)
  rw [List.length_reverse] at this
  exact this
theorem HG_ops0i {B h : Nat} : ∀ (q : List Nat) (m : Nat), HG B (q.map opIt) m h → m = h + q.length := by
  intro q
  induction q with
  | nil => intro m hm; exact hm
  | cons k q ih =>
    intro m hm
    have hm : arI (opIt k) ≤ m ∧ m - arI (opIt k) + 1 ≤ B ∧ HG B (q.map opIt) (m - arI (opIt k) + 1) h := hm
    rw [arI_op] at hm
    have := ih _ hm.2.2
    show m = h + (q.length + 1)
    omega
theorem HG_opsi {B h m : Nat} (pd : List Nat) (hm : HG B (opIts pd) m h) : m = h + pd.length := by
  have := HG_ops0i pd.reverse m hm
  rw [List.length_reverse] at this
  exact this
theorem HG_one {B h : Nat} {x : It} (h0 : arI x = 0) (hb : h + 1 ≤ B) : HG B [x] h (h + 1) := by
  refine ⟨by omega, by omega, ?_⟩
  show h - arI x + 1 = h + 1
  omega
/-- what a unit at depth d needs -/
def bU (d : Nat) : Nat := 1 + 2 * (6 - d)
/-- the pile of an expression's list: from a more to b more -/
def HX (es : List It) (m : Nat) : Prop := ∀ h, h + m ≤ 21 → HG 40 es h (h + m)
theorem HX_app {a b : List It} {m n : Nat} (ha : HX a m) (hb : HX b n) : HX (a ++ b) (m + n) := fun h hh => by
  rw [← Nat.add_assoc]
  exact HG_app (hb _ (by omega)) a h (ha h (by omega))
theorem HX_nil : HX [] 0 := fun _ _ => rfl
