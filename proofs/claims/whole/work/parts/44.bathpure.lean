/-! the bath: one stroke back and forth, purely -/
def dst (o a : Int32) : Nat := (q_ix o - q_ix a) + (q_ix a - q_ix o)
def combS (z : Nat → Int32) (o : Int32) (n : Nat) : Int32 := match n with
  | 0 => 0
  | n + 1 => combS z o n + tooth (dst o (z 1 + nI n * z 2)) (q_ix (z 5)) (z 4)
def waveS (z : Nat → Int32) (o : Int32) : Int32 := if z 1 - (o - o / z 1 * z 1) ≤ o - o / z 1 * z 1 then (z 2 * (z 1 - (o - o / z 1 * z 1))) / z 1 else (z 2 * (o - o / z 1 * z 1)) / z 1
def drg (k : Nat) (z : Nat → Int32) (o : Int32) : Int32 := if k = 1 then tooth (dst o (z 1)) (q_ix (z 3)) (z 2) else if k = 2 then combS z o (q_ix (z 3)) else waveS z o
def radN (r t : Nat) : Nat := if 1 ≤ r * (10 - t) / 10 then r * (10 - t) / 10 else 1
def dD (x y : Int32) (z : Nat → Int32) : Nat := q_ix ((x - z 0) * (x - z 0) + (y - z 1) * (y - z 1))
def rR (t : Nat) (z : Nat → Int32) : Nat := radN (q_ix (z 2)) t
noncomputable def bk0 (t : Nat) (z : Nat → Int32) (x y : Int32) : Option (Int32 × Int32) :=
  if dD x y z < rR t z * rR t z then none else some (z 0 + ((x - z 0) * nI (rt (dD x y z - rR t z * rR t z))) / nI (rt (dD x y z)), z 1 + ((y - z 1) * nI (rt (dD x y z - rR t z * rR t z))) / nI (rt (dD x y z)))
noncomputable def fw0 (t : Nat) (z : Nat → Int32) (x y : Int32) : Int32 × Int32 :=
  if dD x y z = 0 then (x + nI (rR t z), y) else (z 0 + ((x - z 0) * nI (rt (dD x y z + rR t z * rR t z))) / nI (rt (dD x y z)), z 1 + ((y - z 1) * nI (rt (dD x y z + rR t z * rR t z))) / nI (rt (dD x y z)))
noncomputable def bkw (t k : Nat) (z : Nat → Int32) (x y : Int32) : Option (Int32 × Int32) := if k = 0 then bk0 t z x y else if z 0 = 0 then some (x - drg k z y, y) else some (x, y - drg k z x)
noncomputable def fww (t k : Nat) (z : Nat → Int32) (x y : Int32) : Int32 × Int32 := if k = 0 then fw0 t z x y else if z 0 = 0 then (x + drg k z y, y) else (x, y + drg k z x)
def ptB (x y : Int32) : Bool := !(decide (x < 0)) && (!(decide (1024 ≤ x)) && (!(decide (y < 0)) && !(decide (1024 ≤ y))))
/-- 0: of none, 1: beyond, i + 2: of the drop i -/
noncomputable def org (t : Nat) (K : Nat → Nat) (Z : Nat → Nat → Int32) (i : Nat) (x y : Int32) : Nat × Int32 × Int32 := match i with
  | 0 => (0, x, y)
  | i + 1 => match bkw t (K i) (Z i) x y with
    | none => (i + 2, x, y)
    | some p => if ptB p.1 p.2 then org t K Z i p.1 p.2 else (1, p.1, p.2)
noncomputable def fwl (t : Nat) (K : Nat → Nat) (Z : Nat → Nat → Int32) (n i : Nat) (x y : Int32) : Bool × Int32 × Int32 := match n with
  | 0 => (true, x, y)
  | n + 1 => if ptB (fww t (K i) (Z i) x y).1 (fww t (K i) (Z i) x y).2 then fwl t K Z n (i + 1) (fww t (K i) (Z i) x y).1 (fww t (K i) (Z i) x y).2 else (false, (fww t (K i) (Z i) x y).1, (fww t (K i) (Z i) x y).2)
theorem ptB_of {x y : Int32} (h : ptB x y = true) : ∃ a b, a < 1024 ∧ b < 1024 ∧ x = nI a ∧ y = nI b := by
  unfold ptB at h
  simp only [Bool.and_eq_true, Bool.not_eq_true', decide_eq_false_iff_not] at h
  obtain ⟨h1, h2, h3, h4⟩ := h
  obtain ⟨a, ha, rfl⟩ := nI_of h1
  obtain ⟨b, hb, rfl⟩ := nI_of h3
  rw [show (1024 : Int32) = nI 1024 from rfl, nI_leI (by omega) (by omega)] at h2 h4
  exact ⟨a, b, by omega, by omega, rfl, rfl⟩
theorem ptB_nI {a b : Nat} (ha : a < 1024) (hb : b < 1024) : ptB (nI a) (nI b) = true := by
  unfold ptB
  rw [decide_eq_false (nI_pos (by omega)), decide_eq_false (nI_pos (by omega)), show (1024 : Int32) = nI 1024 from rfl, decide_eq_false (by rw [nI_leI (by omega) (by omega)]; omega), decide_eq_false (by rw [nI_leI (by omega) (by omega)]; omega)]
  rfl
theorem isPointC (x y : Int32) (w : q_W) : fX0_isPoint x y w = some (b01 (ptB x y), w) := by
  unfold fX0_isPoint ptB
  by_cases h1 : x < 0
  · rw [if_pos h1, decide_eq_true h1]; rfl
  · rw [if_neg h1, decide_eq_false h1]
    by_cases h2 : 1024 ≤ x
    · rw [if_pos h2, decide_eq_true h2]; rfl
    · rw [if_neg h2, decide_eq_false h2]
      by_cases h3 : y < 0
      · rw [if_pos h3, decide_eq_true h3]; rfl
      · rw [if_neg h3, decide_eq_false h3]
        by_cases h4 : 1024 ≤ y
        · rw [if_pos h4, decide_eq_true h4]; rfl
        · rw [if_neg h4, decide_eq_false h4]; rfl
theorem isPointR (x y : Int32) (w : q_W) : fX11_isPoint x y w = some (b01 (ptB x y), w) := by
  rw [← isPointC x y w]
  rfl
theorem q_ixn {n : Nat} (h : n < 2 ^ 31) : q_ix (nI n) = n := nI_clamp h
theorem dst_n {a b : Nat} (ha : a < 2 ^ 31) (hb : b < 2 ^ 31) : dst (nI a) (nI b) = (a - b) + (b - a) := by
  unfold dst
  rw [q_ixn ha, q_ixn hb]
theorem sqr_n {a b : Nat} (ha : a < 2 ^ 30) (hb : b < 2 ^ 30) : (nI a - nI b) * (nI a - nI b) = nI (((a - b) + (b - a)) * ((a - b) + (b - a))) := by
  by_cases h : b ≤ a
  · rw [pk_sub h, pk_mul, show b - a = 0 by omega, Nat.add_zero]
  · have e : (nI a - nI b) * (nI a - nI b) = (nI b - nI a) * (nI b - nI a) := by grind
    rw [e, pk_sub (by omega), pk_mul, show a - b = 0 by omega, Nat.zero_add]
theorem dD_ok {a b X Y : Nat} (ha : a < 1024) (hb : b < 1024) (hX : X < 1024) (hY : Y < 1024) {z : Nat → Int32} (h0 : z 0 = nI X) (h1 : z 1 = nI Y) : dD (nI a) (nI b) z ≤ 2100000 ∧ (nI a - z 0) * (nI a - z 0) + (nI b - z 1) * (nI b - z 1) = nI (dD (nI a) (nI b) z) := by
  unfold dD
  rw [h0, h1, sqr_n (by omega) (by omega), sqr_n (by omega) (by omega), nI_add]
  have e1 : ((a - X) + (X - a)) * ((a - X) + (X - a)) ≤ 1023 * 1023 := Nat.mul_le_mul (by omega) (by omega)
  have e2 : ((b - Y) + (Y - b)) * ((b - Y) + (Y - b)) ≤ 1023 * 1023 := Nat.mul_le_mul (by omega) (by omega)
  rw [q_ixn (by omega)]
  exact ⟨by omega, rfl⟩
theorem rad_ok {R t : Nat} (hR : R ≤ 512) (ht : t ≤ 9) : (nI R * (10 - nI t)) / 10 = nI (R * (10 - t) / 10) := by
  have : R * (10 - t) ≤ 512 * 10 := Nat.mul_le_mul hR (by omega)
  rw [show (10 : Int32) = nI 10 from rfl, pk_sub (by omega), pk_mul, pk_div (by omega) (by decide) (by decide)]
theorem radN_le {R t : Nat} (hR : R ≤ 512) : radN R t ≤ 512 ∧ 1 ≤ radN R t := by
  unfold radN
  have : R * (10 - t) ≤ 512 * 10 := Nat.mul_le_mul hR (by omega)
  by_cases h : 1 ≤ R * (10 - t) / 10
  · rw [if_pos h]; omega
  · rw [if_neg h]; omega
/-- what a stroke's numbers are -/
theorem fits_all {z : Nat → Int32} {c : Nat} (h : fitsB z c 0 = true) (j : Nat) (hj : j < nums c) : chk (z j) (lo_ c j) (hi_ c j) = true := by
  unfold fitsB at h
  rw [List.all_eq_true] at h
  exact h j (by rw [List.mem_range'_1]; omega)
theorem fits0 {z : Nat → Int32} (h : fitsB z 0 0 = true) : ∃ X Y R C, X < 1024 ∧ Y < 1024 ∧ 1 ≤ R ∧ R ≤ 512 ∧ C ≤ 7 ∧ z 0 = nI X ∧ z 1 = nI Y ∧ z 2 = nI R ∧ z 3 = nI C := by
  obtain ⟨X, _, hX, e0⟩ := chk_nI (lo := 0) (hi := 1023) (fits_all h 0 (by decide)) (by decide) (by decide)
  obtain ⟨Y, _, hY, e1⟩ := chk_nI (lo := 0) (hi := 1023) (fits_all h 1 (by decide)) (by decide) (by decide)
  obtain ⟨R, hR0, hR, e2⟩ := chk_nI (lo := 1) (hi := 512) (fits_all h 2 (by decide)) (by decide) (by decide)
  obtain ⟨C, _, hC, e3⟩ := chk_nI (lo := 0) (hi := 7) (fits_all h 3 (by decide)) (by decide) (by decide)
  exact ⟨X, Y, R, C, by omega, by omega, hR0, hR, hC, e0, e1, e2, e3⟩
theorem fits1 {z : Nat → Int32} (h : fitsB z 1 0 = true) : ∃ a b d, a ≤ 1 ∧ b < 1024 ∧ 1 ≤ d ∧ d < 1024 ∧ z 0 = nI a ∧ z 1 = nI b ∧ small (z 2) 1023 ∧ z 3 = nI d := by
  obtain ⟨a, _, ha, e0⟩ := chk_nI (lo := 0) (hi := 1) (fits_all h 0 (by decide)) (by decide) (by decide)
  obtain ⟨b, _, hb, e1⟩ := chk_nI (lo := 0) (hi := 1023) (fits_all h 1 (by decide)) (by decide) (by decide)
  have e2 := chk_small (fits_all h 2 (by decide))
  obtain ⟨d, hd0, hd, e3⟩ := chk_nI (lo := 1) (hi := 1023) (fits_all h 3 (by decide)) (by decide) (by decide)
  exact ⟨a, b, d, ha, by omega, hd0, by omega, e0, e1, e2, e3⟩
theorem fits2 {z : Nat → Int32} (h : fitsB z 2 0 = true) : ∃ a b c d e, a ≤ 1 ∧ b < 1024 ∧ 1 ≤ c ∧ c < 1024 ∧ 1 ≤ d ∧ d ≤ 20 ∧ 1 ≤ e ∧ e < 1024 ∧ z 0 = nI a ∧ z 1 = nI b ∧ z 2 = nI c ∧ z 3 = nI d ∧ small (z 4) 1023 ∧ z 5 = nI e := by
  obtain ⟨a, _, ha, e0⟩ := chk_nI (lo := 0) (hi := 1) (fits_all h 0 (by decide)) (by decide) (by decide)
  obtain ⟨b, _, hb, e1⟩ := chk_nI (lo := 0) (hi := 1023) (fits_all h 1 (by decide)) (by decide) (by decide)
  obtain ⟨c, hc0, hc, e2⟩ := chk_nI (lo := 1) (hi := 1023) (fits_all h 2 (by decide)) (by decide) (by decide)
  obtain ⟨d, hd0, hd, e3⟩ := chk_nI (lo := 1) (hi := 20) (fits_all h 3 (by decide)) (by decide) (by decide)
  have e4 := chk_small (fits_all h 4 (by decide))
  obtain ⟨e, he0, he, e5⟩ := chk_nI (lo := 1) (hi := 1023) (fits_all h 5 (by decide)) (by decide) (by decide)
  exact ⟨a, b, c, d, e, ha, by omega, hc0, by omega, hd0, hd, he0, by omega, e0, e1, e2, e3, e4, e5⟩
theorem fits3 {z : Nat → Int32} (h : fitsB z 3 0 = true) : ∃ a b, a ≤ 1 ∧ 2 ≤ b ∧ b ≤ 1024 ∧ z 0 = nI a ∧ z 1 = nI b ∧ small (z 2) 1023 := by
  obtain ⟨a, _, ha, e0⟩ := chk_nI (lo := 0) (hi := 1) (fits_all h 0 (by decide)) (by decide) (by decide)
  obtain ⟨b, hb0, hb, e1⟩ := chk_nI (lo := 2) (hi := 1024) (fits_all h 1 (by decide)) (by decide) (by decide)
  have e2 := chk_small (fits_all h 2 (by decide))
  exact ⟨a, b, ha, hb0, hb, e0, e1, e2⟩
/-- where the walk stands: class, reference -/
def atC (w : q_W) (x y : Int32) : q_W := q_sI (q_sI w 12 4 x) 12 5 y
def atR (w : q_W) (x y : Int32) : q_W := q_sI (q_sI w 0 61 x) 0 62 y
theorem atC_x (w : q_W) (x y : Int32) : (atC w x y).1 12 4 = x := rfl
theorem atC_y (w : q_W) (x y : Int32) : (atC w x y).1 12 5 = y := rfl
theorem atC_2 (w : q_W) (x y : Int32) : (atC w x y).2 = w.2 := rfl
theorem atC_o (w : q_W) (x y : Int32) (q : Nat) (h : q ≠ 12) : (atC w x y).1 q = w.1 q := by
  unfold atC; rw [sI_cell _ _ _ _ _ h, sI_cell _ _ _ _ _ h]
theorem atC_k (w : q_W) (x y : Int32) (k : Nat) (h : k ≠ 4) (h' : k ≠ 5) : (atC w x y).1 12 k = w.1 12 k := by
  unfold atC; rw [sI_k _ _ _ _ _ h', sI_k _ _ _ _ _ h]
theorem atC_wx (w : q_W) (x y x' : Int32) : q_sI (atC w x y) 12 4 x' = atC w x' y := by
  unfold atC q_sI
  refine Prod.ext (funext fun a => funext fun b => ?_) rfl
  by_cases h1 : a = 12 <;> by_cases h2 : b = 4 <;> by_cases h3 : b = 5 <;> simp [h1, h2, h3]
theorem atC_wy (w : q_W) (x y y' : Int32) : q_sI (atC w x y) 12 5 y' = atC w x y' := by
  unfold atC q_sI
  refine Prod.ext (funext fun a => funext fun b => ?_) rfl
  by_cases h1 : a = 12 <;> by_cases h2 : b = 4 <;> by_cases h3 : b = 5 <;> simp [h1, h2, h3]
theorem atR_x (w : q_W) (x y : Int32) : (atR w x y).1 0 61 = x := rfl
theorem atR_y (w : q_W) (x y : Int32) : (atR w x y).1 0 62 = y := rfl
theorem atR_2 (w : q_W) (x y : Int32) : (atR w x y).2 = w.2 := rfl
theorem atR_o (w : q_W) (x y : Int32) (q : Nat) (h : q ≠ 0) : (atR w x y).1 q = w.1 q := by
  unfold atR; rw [sI_cell _ _ _ _ _ h, sI_cell _ _ _ _ _ h]
theorem atR_k (w : q_W) (x y : Int32) (k : Nat) (h : k ≠ 61) (h' : k ≠ 62) : (atR w x y).1 0 k = w.1 0 k := by
  unfold atR; rw [sI_k _ _ _ _ _ h', sI_k _ _ _ _ _ h]
theorem atR_wx (w : q_W) (x y x' : Int32) : q_sI (atR w x y) 0 61 x' = atR w x' y := by
  unfold atR q_sI
  refine Prod.ext (funext fun a => funext fun b => ?_) rfl
  by_cases h1 : a = 0 <;> by_cases h2 : b = 61 <;> by_cases h3 : b = 62 <;> simp [h1, h2, h3]
theorem atR_wy (w : q_W) (x y y' : Int32) : q_sI (atR w x y) 0 62 y' = atR w x y' := by
  unfold atR q_sI
  refine Prod.ext (funext fun a => funext fun b => ?_) rfl
  by_cases h1 : a = 0 <;> by_cases h2 : b = 61 <;> by_cases h3 : b = 62 <;> simp [h1, h2, h3]
