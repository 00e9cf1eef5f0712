/-! ===== Level 2: pure Lean. Words and loops ===== -/
theorem q_b_some {ρ σ : Type} (r : ρ) (w : q_W) (k : ρ → q_W → Option σ) : q_b (some (r, w)) k = k r w := rfl
theorem q_lt_eq {α β : Type} (a : α) (f : α → β) : q_lt a f = f a := rfl
theorem q_indG {α σ β : Type} (app : α → σ → β) (F : α → α) (bot : α) (μ : σ → Nat) (P : σ → β → Prop) (step : ∀ r s, (∀ s', μ s' < μ s → P s' (app r s')) → P s (app (F r) s)) : ∀ n s, μ s < n → P s (app (q_it n F bot) s) := by
  intro n
  induction n with
  | zero => intro s h; omega
  | succ n ih => intro s h; exact step _ s (fun s' h' => ih s' (by omega))
theorem q_itS {α : Type} (n : Nat) (F : α → α) (b : α) : q_it (n + 1) F b = F (q_it n F b) := rfl
-- ints
theorem i_lt (a b : Int32) : a < b ↔ a.toInt < b.toInt := Int32.lt_iff_toInt_lt
theorem i_le (a b : Int32) : a ≤ b ↔ a.toInt ≤ b.toInt := Int32.le_iff_toInt_le
theorem i_eq (a b : Int32) : a = b ↔ a.toInt = b.toInt := Int32.toInt_inj.symm
theorem q_ix_nI {n : Nat} (h : n < 2 ^ 31) : q_ix (nI n) = n := nI_clamp h
theorem q_inb_nI {n N : Nat} (h : n < N) (hN : N < 2 ^ 31) : q_inb (nI n) N := ⟨nI_pos' (by omega), by rw [nI_clamp (by omega)]; exact h⟩
theorem q_inb_iff {i : Int32} {N : Nat} (hN : N < 2 ^ 31) : q_inb i N ↔ ∃ n, n < N ∧ i = nI n := by
  constructor
  · intro h
    obtain ⟨j, hj, e⟩ := vp_in_of (q_inb_in h) hN
    exact ⟨j, hj, e⟩
  · rintro ⟨n, hn, rfl⟩
    exact q_inb_nI hn hN
theorem sI_same (w : q_W) (q k : Nat) (v : Int32) : (q_sI w q k v).1 q k = v := by simp [q_sI]
theorem sI_r (w : q_W) (q k : Nat) (v : Int32) : (q_sI w q k v).2 = w.2 := rfl
theorem sI_oth (w : q_W) (q k : Nat) (v : Int32) (a b : Nat) (h : ¬ (a = q ∧ b = k)) : (q_sI w q k v).1 a b = w.1 a b := by simp [q_sI, h]
theorem sI_cell (w : q_W) (q k : Nat) (v : Int32) (a : Nat) (h : a ≠ q) : (q_sI w q k v).1 a = w.1 a := by
  funext b; simp [q_sI, h]
theorem sI_k (w : q_W) (q k : Nat) (v : Int32) (b : Nat) (h : b ≠ k) : (q_sI w q k v).1 q b = w.1 q b := by simp [q_sI, h]
/-- the low byte of a word, as a byte array holds it -/
def by_ (a : Int32) : Int32 := vp_nar .byte (Int8.toInt32 (Int32.toInt8 a))
