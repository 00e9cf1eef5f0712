/-! signs -/
def sgnL : List Nat := [59, 44, 43, 45, 42, 47, 37, 61, 60, 40, 41]
/-- the class's kind of the reference's kind -/
def km (r : Nat) : Int32 := [(0 : Int32), 1, 2, -1, 59, 44, 40, 41, 43, 45, 42, 317, 289, 60, 316, 47, 37, 61, 0, 0, 3, 4, 5, 6, 7, 8, 9, 10, 11, 12, 13, 16, 17, 14, 15].getD r 0
def sgT (c : Nat) (nx : Bool) : Bool := nx && (c == 61 || c == 33 || c == 60)
def sgR (c : Nat) (nx : Bool) : Nat := if sgT c nx then (if c = 61 then 11 else if c = 33 then 12 else 14) else if c = 59 then 4 else if c = 40 then 6 else if c = 41 then 7 else if c = 43 then 8 else if c = 45 then 9 else if c = 42 then 10 else if c = 60 then 13 else if c = 44 then 5 else if c = 47 then 15 else if c = 37 then 16 else if c = 61 then 17 else 3
def sgC (c : Nat) (nx : Bool) : Int32 := if sgT c nx then nI c + 256 else if sgnL.contains c then nI c else -1
theorem sg_all : ∀ c, c < 256 → ∀ nx : Bool, sgC c nx = km (sgR c nx) := by decide +kernel
theorem sg_chars : ∀ c, c < 256 → ((∀ m, m < 11 → (q_sby 1).getD m 0 ≠ Int8.toInt32 (Int32.toInt8 (UInt32.toInt32 (Int32.toUInt32 (nI c) % 65536)))) ↔ ¬ sgnL.contains c = true) := by decide +kernel
theorem sg_low : ∀ c, c < 256 → UInt32.toInt32 (Int32.toUInt32 (nI c) % 65536) = nI c := by decide +kernel
theorem idx_lok (y : Int32) (w : q_W) : ∀ d N k, k + d = 11 → d < N → ∃ r, q_it N fJ1_indexOfChar_4cfef_s1_h7 (fun _ _ _ _ => none) 11 y (nI k) w = some (r, w) ∧ (r < 0 ↔ ∀ m, k ≤ m → m < 11 → (q_sby 1).getD m 0 ≠ y) := by
  intro d
  induction d with
  | zero =>
    intro N k h hN
    obtain ⟨N, rfl⟩ : ∃ M, N = M + 1 := ⟨N - 1, by omega⟩
    rw [q_itS, fJ1_indexOfChar_4cfef_s1_h7, if_pos (by rw [show (11 : Int32) = nI 11 from rfl, nI_leI (by omega) (by omega)]; omega)]
    exact ⟨-1, rfl, fun _ m a b => by omega, fun _ => by decide⟩
  | succ d ih =>
    intro N k h hN
    obtain ⟨N, rfl⟩ : ∃ M, N = M + 1 := ⟨N - 1, by omega⟩
    rw [q_itS, fJ1_indexOfChar_4cfef_s1_h7, if_neg (by rw [show (11 : Int32) = nI 11 from rfl, nI_leI (by omega) (by omega)]; omega), if_pos (q_inb_nI (by omega) (by omega)), q_ix_nI (by omega)]
    by_cases e : (q_sby 1).getD k 0 = y
    · rw [if_pos e]
      exact ⟨nI k, rfl, fun c => absurd c (nI_pos (by omega)), fun c => absurd e (c k (by omega) (by omega))⟩
    · rw [if_neg e, q_lt_eq, nI_1]
      obtain ⟨r, e1, e2⟩ := ih N (k + 1) (by omega) (by omega)
      refine ⟨r, e1, e2.trans ⟨fun c m a b => ?_, fun c m a b => c m (by omega) b⟩⟩
      by_cases em : m = k
      · rw [em]; exact e
      · exact c m (by omega) b
theorem idx_ok (c : Nat) (hc : c < 256) (w : q_W) : ∃ r, fJ0_indexOf_0f7a4_s1 (UInt32.toInt32 (Int32.toUInt32 (nI c) % 65536)) w = some (r, w) ∧ (r < 0 ↔ ¬ sgnL.contains c = true) := by
  obtain ⟨r, e1, e2⟩ := idx_lok (Int8.toInt32 (Int32.toInt8 (UInt32.toInt32 (Int32.toUInt32 (nI c) % 65536)))) w 11 q_N 0 rfl (Nat.le_of_ble_eq_true rfl)
  refine ⟨r, ?_, e2.trans ⟨fun h => (sg_chars c hc).mp (fun m hm => h m (by omega) hm), fun h m _ hm => (sg_chars c hc).mpr h m hm⟩⟩
  rw [nI_0] at e1
  have hl : fJ0_length_8abf5_s1 w = some (11, w) := by
    unfold fJ0_length_8abf5_s1 fJ0_coder_7d493_s1
    rw [if_neg i_10, q_b_some]
    rfl
  have hc1 : fJ1_canEncode_9a6ad_s1 (UInt32.toInt32 (Int32.toUInt32 (nI c) % 65536)) w = some (1, w) := by
    unfold fJ1_canEncode_9a6ad_s1
    rw [sg_low c hc, if_neg (nI_pos (by omega)), if_neg (by rw [show (255 : Int32) = nI 255 from rfl, nI_ltI (by omega) (by omega)]; omega)]
  unfold fJ0_indexOf_0f7a4_s1 fJ0_indexOf_7cf53_s1 fJ0_isLatin1_aae02_s1
  rw [if_neg i_10, if_pos rfl, q_b_some, if_neg i_10, hl, q_b_some]
  unfold fJ1_indexOf_4cfef_s1
  rw [hc1, q_b_some, if_neg i_10, q_lt_eq, q_lt_eq, show q_imax 0 0 = 0 from rfl, show q_imin 11 11 = 11 from rfl, if_pos (by decide)]
  unfold fJ1_indexOfChar_4cfef_s1 fJ1_indexOfChar_4cfef_s1_l7
  rw [q_lt_eq, e1, q_b_some, q_b_some, q_b_some]
/-- the class's sign -/
theorem signC {n : Nat} {B : Nat → Nat} {w : q_W} (T : TXC n B w) (s : Int64) {i : Nat} (hi : i < n) : fX7_scanSign (nI (B i)) (stC w (nI i) s) = some (sgC (B i) (decide (i + 1 < n ∧ B (i + 1) = 61)), stC w (nI (i + 1 + (if sgT (B i) (decide (i + 1 < n ∧ B (i + 1) = 61)) then 1 else 0))) s) := by
  have hn := T.2.1
  have hb := (T.2.2 i hi).2
  have hB : ∀ i, i < n → B i < 256 := fun i hi => (T.2.2 i hi).2
  unfold fX7_scanSign
  rw [q_lt_eq, stC_x, stC_wx, nI_1, stC_x, byteAt_ok (TXC_st T _ _) (by omega), q_b_some]
  obtain ⟨r, e, hr⟩ := idx_ok (B i) hb (stC w (nI (i + 1)) s)
  have e57 : fX7_scanSign_n57 (nI (B i)) (stC w (nI (i + 1)) s) = some (if sgnL.contains (B i) then nI (B i) else -1, stC w (nI (i + 1)) s) := by
    unfold fX7_scanSign_n57
    rw [e, q_b_some]
    by_cases c : sgnL.contains (B i) = true
    · rw [if_pos c, if_neg (fun x => (hr.mp x) c)]
    · rw [if_neg c, if_pos (hr.mpr c)]
  have e41 : fX7_scanSign_n41 (nI (B i)) (stC w (nI (i + 1)) s) = some (nI (B i) + 256, stC w (nI (i + 1 + 1)) s) := by
    unfold fX7_scanSign_n41
    rw [q_lt_eq, stC_x, stC_wx, nI_1]
  by_cases hx : i + 1 < n ∧ B (i + 1) = 61
  · have hbc : bC n B (i + 1) = 61 := by unfold bC; rw [if_pos hx.1, hx.2]; rfl
    rw [if_pos hbc, decide_eq_true hx]
    by_cases c1 : B i = 61
    · rw [if_pos (show nI (B i) = 61 by rw [c1]; rfl), e41]; unfold sgC sgT; rw [c1]; rfl
    · rw [if_neg (show ¬ nI (B i) = 61 from nI_ne (b := 61) (by omega) (by omega) c1)]
      by_cases c2 : B i = 33
      · rw [if_pos (show nI (B i) = 33 by rw [c2]; rfl), e41]; unfold sgC sgT; rw [c2]; rfl
      · rw [if_neg (show ¬ nI (B i) = 33 from nI_ne (b := 33) (by omega) (by omega) c2)]
        by_cases c3 : B i = 60
        · rw [if_pos (show nI (B i) = 60 by rw [c3]; rfl), e41]; unfold sgC sgT; rw [c3]; rfl
        · rw [if_neg (show ¬ nI (B i) = 60 from nI_ne (b := 60) (by omega) (by omega) c3), e57]
          have : sgT (B i) true = false := by unfold sgT; simp [c1, c2, c3]
          unfold sgC
          rw [this]
          rfl
  · have hbc : ¬ bC n B (i + 1) = 61 := by
      unfold bC
      by_cases c : i + 1 < n
      · rw [if_pos c]
        exact nI_ne (b := 61) (by have := hB _ c; omega) (by omega) (fun e => hx ⟨c, e⟩)
      · rw [if_neg c]; decide
    rw [if_neg hbc, decide_eq_false hx, e57]
    have : sgT (B i) false = false := rfl
    unfold sgC
    rw [this]
    rfl
