/-! the text: bytes, names, numbers -/
def TXC (n : Nat) (B : Nat → Nat) (w : q_W) : Prop := w.1 1 1 = nI n ∧ n ≤ 2000 ∧ ∀ i, i < n → w.1 2 i &&& 255 = nI (B i) ∧ B i < 256
def TXR (n : Nat) (B : Nat → Nat) (w : q_W) : Prop := w.1 0 4 = nI n ∧ n ≤ 2000 ∧ ∀ i, i < n → w.1 2 i &&& 255 = nI (B i) ∧ B i < 256
def bC (n : Nat) (B : Nat → Nat) (i : Nat) : Int32 := if i < n then nI (B i) else -1
def bR (n : Nat) (B : Nat → Nat) (i : Nat) : Int32 := if i < n then nI (B i) else 0
def leP (n : Nat) (B : Nat → Nat) (i : Nat) : Bool := decide (i < n ∧ 97 ≤ B i ∧ B i ≤ 122)
def dgP (n : Nat) (B : Nat → Nat) (i : Nat) : Bool := decide (i < n ∧ 48 ≤ B i ∧ B i ≤ 57)
def blP (n : Nat) (B : Nat → Nat) (i : Nat) : Bool := decide (i < n ∧ (B i = 9 ∨ B i = 10 ∨ B i = 13 ∨ B i = 32))
theorem byteAt_ok {n : Nat} {B : Nat → Nat} {w : q_W} (h : TXC n B w) {i : Nat} (hi : i < 2 ^ 31) : fX9_byteAt (nI i) w = some (bC n B i, w) := by
  obtain ⟨h1, h2, h3⟩ := h
  unfold fX9_byteAt bC
  rw [if_neg (nI_pos hi), h1]
  by_cases hn : i < n
  · rw [if_pos hn, if_neg (by rw [nI_leI (by omega) (by omega)]; omega), if_neg (by rw [show (2000 : Int32) = nI 2000 from rfl, nI_leI (by omega) (by omega)]; omega), if_pos (q_inb_nI (by omega) (by omega)), q_ix_nI (by omega), (h3 i hn).1]
  · rw [if_neg hn, if_pos (by rw [nI_leI (by omega) (by omega)]; omega)]
theorem atR_ok {n : Nat} {B : Nat → Nat} {w : q_W} (h : TXR n B w) {i : Nat} (hi : i < 2 ^ 31) : fX11_at (nI i) w = some (bR n B i, w) := by
  obtain ⟨h1, h2, h3⟩ := h
  unfold fX11_at bR
  rw [h1]
  by_cases hn : i < n
  · rw [if_pos hn, if_neg (by rw [nI_leI (by omega) (by omega)]; omega), if_pos (q_inb_nI (by omega) (by omega)), q_ix_nI (by omega), (h3 i hn).1]
  · rw [if_neg hn, if_pos (by rw [nI_leI (by omega) (by omega)]; omega)]
theorem letter_nI (b : Nat) (hb : b < 256) (w : q_W) : fX7_isLetter (nI b) w = some (b01 (decide (97 ≤ b ∧ b ≤ 122)), w) := by
  unfold fX7_isLetter
  rw [show (97 : Int32) = nI 97 from rfl, show (122 : Int32) = nI 122 from rfl]
  by_cases h1 : b < 97
  · rw [if_pos (by rw [nI_ltI (by omega) (by omega)]; exact h1), decide_eq_false (by omega)]; rfl
  · rw [if_neg (by rw [nI_ltI (by omega) (by omega)]; exact h1)]
    by_cases h2 : 122 < b
    · rw [if_pos (by rw [nI_ltI (by omega) (by omega)]; exact h2), decide_eq_false (by omega)]; rfl
    · rw [if_neg (by rw [nI_ltI (by omega) (by omega)]; exact h2), decide_eq_true (by omega)]; rfl
theorem digit_nI (b : Nat) (hb : b < 256) (w : q_W) : fX7_isDigit (nI b) w = some (b01 (decide (48 ≤ b ∧ b ≤ 57)), w) := by
  unfold fX7_isDigit
  rw [show (48 : Int32) = nI 48 from rfl, show (57 : Int32) = nI 57 from rfl]
  by_cases h1 : b < 48
  · rw [if_pos (by rw [nI_ltI (by omega) (by omega)]; exact h1), decide_eq_false (by omega)]; rfl
  · rw [if_neg (by rw [nI_ltI (by omega) (by omega)]; exact h1)]
    by_cases h2 : 57 < b
    · rw [if_pos (by rw [nI_ltI (by omega) (by omega)]; exact h2), decide_eq_false (by omega)]; rfl
    · rw [if_neg (by rw [nI_ltI (by omega) (by omega)]; exact h2), decide_eq_true (by omega)]; rfl
theorem letC {n : Nat} {B : Nat → Nat} (hB : ∀ i, i < n → B i < 256) (i : Nat) (w : q_W) : fX7_isLetter (bC n B i) w = some (b01 (leP n B i), w) := by
  unfold bC leP
  by_cases hn : i < n
  · rw [if_pos hn, letter_nI _ (hB i hn)]; simp [hn]
  · rw [if_neg hn, decide_eq_false (by omega)]; rfl
theorem digC {n : Nat} {B : Nat → Nat} (hB : ∀ i, i < n → B i < 256) (i : Nat) (w : q_W) : fX7_isDigit (bC n B i) w = some (b01 (dgP n B i), w) := by
  unfold bC dgP
  by_cases hn : i < n
  · rw [if_pos hn, digit_nI _ (hB i hn)]; simp [hn]
  · rw [if_neg hn, decide_eq_false (by omega)]; rfl
theorem letR {n : Nat} {B : Nat → Nat} (hB : ∀ i, i < n → B i < 256) (i : Nat) (w : q_W) : fX11_isLetter (bR n B i) w = some (b01 (leP n B i), w) := by
  unfold bR leP
  by_cases hn : i < n
  · rw [if_pos hn]
    have := letter_nI (B i) (hB i hn) w
    rw [show fX11_isLetter (nI (B i)) w = fX7_isLetter (nI (B i)) w from rfl, this]; simp [hn]
  · rw [if_neg hn, decide_eq_false (by omega)]; rfl
theorem digR {n : Nat} {B : Nat → Nat} (hB : ∀ i, i < n → B i < 256) (i : Nat) (w : q_W) : fX11_isDigit (bR n B i) w = some (b01 (dgP n B i), w) := by
  unfold bR dgP
  by_cases hn : i < n
  · rw [if_pos hn]
    have := digit_nI (B i) (hB i hn) w
    rw [show fX11_isDigit (nI (B i)) w = fX7_isDigit (nI (B i)) w from rfl, this]; simp [hn]
  · rw [if_neg hn, decide_eq_false (by omega)]; rfl
theorem nI_ne {a b : Nat} (ha : a < 2 ^ 31) (hb : b < 2 ^ 31) (h : a ≠ b) : ¬ nI a = nI b := by rw [nI_eq ha hb]; exact h
theorem blkC {n : Nat} {B : Nat → Nat} (hB : ∀ i, i < n → B i < 256) (i : Nat) (w : q_W) : fX7_isBlank (bC n B i) w = some (b01 (blP n B i), w) := by
  unfold bC blP fX7_isBlank
  by_cases hn : i < n
  · have := hB i hn
    rw [if_pos hn, show (9 : Int32) = nI 9 from rfl, show (10 : Int32) = nI 10 from rfl, show (13 : Int32) = nI 13 from rfl, show (32 : Int32) = nI 32 from rfl]
    by_cases h1 : B i = 9
    · rw [if_pos (by rw [h1]), decide_eq_true (by omega)]; rfl
    · rw [if_neg (nI_ne (by omega) (by omega) h1)]
      by_cases h2 : B i = 10
      · rw [if_pos (by rw [h2]), decide_eq_true (by omega)]; rfl
      · rw [if_neg (nI_ne (by omega) (by omega) h2)]
        by_cases h3 : B i = 13
        · rw [if_pos (by rw [h3]), decide_eq_true (by omega)]; rfl
        · rw [if_neg (nI_ne (by omega) (by omega) h3)]
          by_cases h4 : B i = 32
          · rw [if_pos (by rw [h4]), decide_eq_true (by omega)]; rfl
          · rw [if_neg (nI_ne (by omega) (by omega) h4), decide_eq_false (by omega)]; rfl
  · rw [if_neg hn, decide_eq_false (by omega), if_neg (by decide), if_neg (by decide), if_neg (by decide), if_neg (by decide)]; rfl
/-- a run of bytes from i to j -/
def run (p : Nat → Bool) (i j : Nat) : Prop := i ≤ j ∧ (∀ k, i ≤ k → k < j → p k = true) ∧ p j = false
theorem run_ex {p : Nat → Bool} {n : Nat} (hp : ∀ k, n ≤ k → p k = false) : ∀ d i, n ≤ i + d → i ≤ n → ∃ j, j ≤ n ∧ run p i j := by
  intro d
  induction d with
  | zero => intro i h h'; exact ⟨i, h', Nat.le_refl _, fun k a b => by omega, hp i (by omega)⟩
  | succ d ih =>
    intro i h h'
    cases hi : p i with
    | false => exact ⟨i, h', Nat.le_refl _, fun k a b => by omega, hi⟩
    | true =>
      have hin : i < n := by
        apply Nat.lt_of_not_le
        intro c
        rw [hp i c] at hi
        exact absurd hi (by decide)
      obtain ⟨j, hj, a, b, c⟩ := ih (i + 1) (by omega) (by omega)
      refine ⟨j, hj, by omega, fun k h1 h2 => ?_, c⟩
      by_cases e : k = i
      · rw [e]; exact hi
      · exact b k (by omega) h2
theorem leP_n (n : Nat) (B : Nat → Nat) : ∀ k, n ≤ k → leP n B k = false := fun k h => decide_eq_false (by omega)
theorem dgP_n (n : Nat) (B : Nat → Nat) : ∀ k, n ≤ k → dgP n B k = false := fun k h => decide_eq_false (by omega)
theorem blP_n (n : Nat) (B : Nat → Nat) : ∀ k, n ≤ k → blP n B k = false := fun k h => decide_eq_false (by omega)
/-- the m bytes from i on, last first -/
def nL (B : Nat → Nat) (i m : Nat) : List Nat := match m with
  | 0 => []
  | m + 1 => B (i + m) :: nL B i m
def q2 (l : List Nat) : Nat := match l with
  | [] => 0
  | b :: l => 256 * q2 l + b
def dgt (b : Nat) : Nat := if b ≤ 57 then b - 48 + 27 else b - 97 + 1
def r2 (l : List Nat) : Nat := match l with
  | [] => 0
  | b :: l => 37 * r2 l + dgt b
def v2 (l : List Nat) : Nat := match l with
  | [] => 0
  | b :: l => 10 * v2 l + b - 48
def okB (b : Nat) : Prop := 48 ≤ b ∧ b ≤ 57 ∨ 97 ≤ b ∧ b ≤ 122
def okL (l : List Nat) : Prop := l.length ≤ 8 ∧ ∀ b, b ∈ l → okB b
theorem nL_len (B : Nat → Nat) (i : Nat) : ∀ m, (nL B i m).length = m := by
  intro m
  induction m with
  | zero => rfl
  | succ m ih => show (nL B i m).length + 1 = m + 1; rw [ih]
theorem nL_mem {B : Nat → Nat} {i : Nat} {P : Nat → Prop} : ∀ m, (∀ k, i ≤ k → k < i + m → P (B k)) → ∀ b, b ∈ nL B i m → P b := by
  intro m
  induction m with
  | zero => intro _ b h; cases h
  | succ m ih =>
    intro h b hb
    rcases List.mem_cons.mp hb with e | e
    · rw [e]; exact h (i + m) (by omega) (by omega)
    · exact ih (fun k a c => h k a (by omega)) b e
theorem q2_lt : ∀ l : List Nat, (∀ b, b ∈ l → okB b) → q2 l < 256 ^ l.length := by
  intro l
  induction l with
  | nil => intro _; decide
  | cons b l ih =>
    intro h
    have h1 := ih (fun x hx => h x (List.mem_cons_of_mem _ hx))
    have h2 := h b List.mem_cons_self
    unfold okB at h2
    show 256 * q2 l + b < 256 ^ (l.length + 1)
    rw [Nat.pow_succ]
    omega
theorem dgt_ok {b : Nat} (h : okB b) : 1 ≤ dgt b ∧ dgt b ≤ 36 := by
  unfold okB at h
  unfold dgt
  by_cases c : b ≤ 57
  · rw [if_pos c]; omega
  · rw [if_neg c]; omega
theorem dgt_inj {a b : Nat} (ha : okB a) (hb : okB b) (h : dgt a = dgt b) : a = b := by
  unfold okB at *
  unfold dgt at h
  by_cases c : a ≤ 57
  · rw [if_pos c] at h
    by_cases d : b ≤ 57
    · rw [if_pos d] at h; omega
    · rw [if_neg d] at h; omega
  · rw [if_neg c] at h
    by_cases d : b ≤ 57
    · rw [if_pos d] at h; omega
    · rw [if_neg d] at h; omega
theorem r2_lt : ∀ l : List Nat, (∀ b, b ∈ l → okB b) → r2 l < 37 ^ l.length := by
  intro l
  induction l with
  | nil => intro _; decide
  | cons b l ih =>
    intro h
    have h1 := ih (fun x hx => h x (List.mem_cons_of_mem _ hx))
    have h2 := dgt_ok (h b List.mem_cons_self)
    show 37 * r2 l + dgt b < 37 ^ (l.length + 1)
    rw [Nat.pow_succ]
    omega
theorem q2_inj : ∀ l l' : List Nat, (∀ b, b ∈ l → okB b) → (∀ b, b ∈ l' → okB b) → q2 l = q2 l' → l = l' := by
  intro l
  induction l with
  | nil =>
    intro l' _ h' e
    cases l' with
    | nil => rfl
    | cons b l' =>
      have h2 := h' b List.mem_cons_self
      unfold okB at h2
      have e : 0 = 256 * q2 l' + b := e
      omega
  | cons a l ih =>
    intro l' h h' e
    have h1 := h a List.mem_cons_self
    cases l' with
    | nil =>
      unfold okB at h1
      have e : 256 * q2 l + a = 0 := e
      omega
    | cons b l' =>
      have h2 := h' b List.mem_cons_self
      unfold okB at h1 h2
      have e : 256 * q2 l + a = 256 * q2 l' + b := e
      have e1 : a = b := by omega
      rw [e1, ih l' (fun x hx => h x (List.mem_cons_of_mem _ hx)) (fun x hx => h' x (List.mem_cons_of_mem _ hx)) (by omega)]
theorem r2_inj : ∀ l l' : List Nat, (∀ b, b ∈ l → okB b) → (∀ b, b ∈ l' → okB b) → r2 l = r2 l' → l = l' := by
  intro l
  induction l with
  | nil =>
    intro l' _ h' e
    cases l' with
    | nil => rfl
    | cons b l' =>
      have h2 := dgt_ok (h' b List.mem_cons_self)
      have e : 0 = 37 * r2 l' + dgt b := e
      omega
  | cons a l ih =>
    intro l' h h' e
    have h1 := dgt_ok (h a List.mem_cons_self)
    cases l' with
    | nil =>
      have e : 37 * r2 l + dgt a = 0 := e
      omega
    | cons b l' =>
      have h2 := dgt_ok (h' b List.mem_cons_self)
      have e : 37 * r2 l + dgt a = 37 * r2 l' + dgt b := e
      have e1 : a = b := dgt_inj (h a List.mem_cons_self) (h' b List.mem_cons_self) (by omega)
      rw [e1, ih l' (fun x hx => h x (List.mem_cons_of_mem _ hx)) (fun x hx => h' x (List.mem_cons_of_mem _ hx)) (by omega)]
theorem lN_inj {a b : Nat} (ha : a < 2 ^ 64) (hb : b < 2 ^ 64) (h : lN a = lN b) : a = b := by
  have h1 : (lN a).toBitVec = (lN b).toBitVec := by rw [h]
  have h2 : BitVec.ofNat 64 a = BitVec.ofNat 64 b := h1
  have h3 := congrArg BitVec.toNat h2
  rw [BitVec.toNat_ofNat, BitVec.toNat_ofNat, Nat.mod_eq_of_lt ha, Nat.mod_eq_of_lt hb] at h3
  exact h3
theorem okL_q {l : List Nat} (h : okL l) : q2 l < 2 ^ 64 := by
  have h1 := q2_lt l h.2
  have h2 : 256 ^ l.length ≤ 256 ^ 8 := Nat.pow_le_pow_right (by decide) h.1
  omega
theorem okL_r {l : List Nat} (h : okL l) : r2 l < 2 ^ 64 := by
  have h1 := r2_lt l h.2
  have h2 : 37 ^ l.length ≤ 37 ^ 8 := Nat.pow_le_pow_right (by decide) h.1
  omega
/-- two names are one: both digests say so -/
theorem name_eqC {l l' : List Nat} (h : okL l) (h' : okL l') : lN (q2 l) = lN (q2 l') ↔ l = l' :=
  ⟨fun e => q2_inj l l' h.2 h'.2 (lN_inj (okL_q h) (okL_q h') e), fun e => by rw [e]⟩
theorem name_eqR {l l' : List Nat} (h : okL l) (h' : okL l') : lN (r2 l) = lN (r2 l') ↔ l = l' :=
  ⟨fun e => r2_inj l l' h.2 h'.2 (lN_inj (okL_r h) (okL_r h') e), fun e => by rw [e]⟩
theorem shl8or {q b : Nat} (hq : q < 2 ^ 56) (hb : b < 256) : (lN q <<< ((8 : Int32).toInt64 &&& 63)) ||| (nI b).toInt64 = lN (256 * q + b) := by
  rw [nI_l (by omega)]
  apply Int64.toBitVec_inj.mp
  have e1 : (lN q <<< ((8 : Int32).toInt64 &&& 63)).toBitVec = BitVec.ofNat 64 q <<< 8 := rfl
  have e2 : (lN q <<< ((8 : Int32).toInt64 &&& 63) ||| lN b).toBitVec = (BitVec.ofNat 64 q <<< 8) ||| BitVec.ofNat 64 b := by
    rw [Int64.toBitVec_or, e1]
    rfl
  rw [e2]
  apply BitVec.eq_of_toNat_eq
  show _ = (BitVec.ofNat 64 (256 * q + b)).toNat
  rw [BitVec.toNat_or, BitVec.toNat_shiftLeft, BitVec.toNat_ofNat, BitVec.toNat_ofNat, BitVec.toNat_ofNat, Nat.mod_eq_of_lt (show q < 2 ^ 64 by omega), Nat.mod_eq_of_lt (show b < 2 ^ 64 by omega), Nat.mod_eq_of_lt (show 256 * q + b < 2 ^ 64 by omega), Nat.shiftLeft_eq, Nat.mod_eq_of_lt (show q * 2 ^ 8 < 2 ^ 64 by omega), ← Nat.shiftLeft_eq, ← Nat.shiftLeft_add_eq_or_of_lt (show b < 2 ^ 8 by omega), Nat.shiftLeft_eq]
  omega
