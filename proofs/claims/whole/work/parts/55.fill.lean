/-! pieces: both fill the same cells -/
def nbr (y x : Nat) : Prop := y < 256 ∧ x < 256 ∧ (x + 16 = y ∨ x = y + 16 ∨ (x + 1 = y ∧ y % 16 ≠ 0) ∨ (x = y + 1 ∧ y % 16 ≠ 15))
def updB (S : Nat → Bool) (x : Nat) : Nat → Bool := fun i => if i = x then true else S i
def cntB (S : Nat → Bool) (n : Nat) : Nat := match n with
  | 0 => 0
  | n + 1 => cntB S n + (if S n then 1 else 0)
theorem cntB_le (S : Nat → Bool) : ∀ n, cntB S n ≤ n := by
  intro n
  induction n with
  | zero => exact Nat.le_refl _
  | succ n ih =>
    unfold cntB
    by_cases h : S n = true
    · rw [if_pos h]; omega
    · rw [if_neg h]; omega
theorem cntB_cong {S S' : Nat → Bool} : ∀ n, (∀ i, i < n → S i = S' i) → cntB S n = cntB S' n := by
  intro n
  induction n with
  | zero => intro _; rfl
  | succ n ih =>
    intro h
    unfold cntB
    rw [ih (fun i hi => h i (by omega)), h n (by omega)]
theorem cntB_lt {S : Nat → Bool} {x : Nat} (hx : S x = false) : ∀ n, x < n → cntB S n < n := by
  intro n
  induction n with
  | zero => intro h; omega
  | succ n ih =>
    intro h
    unfold cntB
    by_cases e : x = n
    · subst e
      have := cntB_le S x
      rw [hx, if_neg (by decide)]
      omega
    · have := ih (by omega)
      by_cases h : S n = true
      · rw [if_pos h]; omega
      · rw [if_neg h]; omega
theorem cntB_upd {S : Nat → Bool} {x : Nat} (hx : S x = false) : ∀ n, x < n → cntB (updB S x) n = cntB S n + 1 := by
  intro n
  induction n with
  | zero => intro h; omega
  | succ n ih =>
    intro h
    unfold cntB
    by_cases e : x = n
    · subst e
      have e1 : cntB (updB S x) x = cntB S x := cntB_cong x (fun i hi => by unfold updB; rw [if_neg (by omega)])
      have e2 : updB S x x = true := by unfold updB; rw [if_pos rfl]
      rw [e1, e2, hx, if_pos rfl, if_neg (by decide)]
    · have e2 : updB S x n = S n := by unfold updB; rw [if_neg (by omega)]
      rw [ih (by omega), e2]
      omega
def good (C : Nat → Int32) (c : Int32) (S0 : Nat → Bool) (st : Nat) (T : Nat → Bool) : Prop := (∀ i, S0 i = true → T i = true) ∧ T st = true ∧ ∀ y x, T y = true → S0 y = false → nbr y x → C x = c → T x = true
def Fill (C : Nat → Int32) (c : Int32) (S0 : Nat → Bool) (st : Nat) (S : Nat → Bool) (P : Nat → Prop) : Prop :=
  (∀ i, S0 i = true → S i = true) ∧ S st = true ∧ (∀ y, S y = true → S0 y = false → (P y ∨ ∀ x, nbr y x → C x = c → S x = true)) ∧ (∀ y, P y → y < 256 ∧ S y = true ∧ S0 y = false) ∧ ∀ T, good C c S0 st T → ∀ i, S i = true → T i = true
theorem Fill_start {C : Nat → Int32} {c : Int32} {S0 : Nat → Bool} {st : Nat} (h : S0 st = false) (hst : st < 256) : Fill C c S0 st (updB S0 st) (fun z => z = st) := by
  refine ⟨fun i hi => ?_, by unfold updB; rw [if_pos rfl], fun y hy h0 => ?_, fun y hy => ?_, fun T hT i hi => ?_⟩
  · unfold updB
    by_cases e : i = st
    · rw [if_pos e]
    · rw [if_neg e, hi]
  · unfold updB at hy
    by_cases e : y = st
    · exact Or.inl e
    · rw [if_neg e, h0] at hy
      exact absurd hy (by decide)
  · have hy : y = st := hy
    subst hy
    exact ⟨hst, by unfold updB; rw [if_pos rfl], h⟩
  · unfold updB at hi
    by_cases e : i = st
    · rw [e]; exact hT.2.1
    · rw [if_neg e] at hi
      exact hT.1 i hi
theorem Fill_mark {C : Nat → Int32} {c : Int32} {S0 S : Nat → Bool} {st y x : Nat} {P : Nat → Prop} (F : Fill C c S0 st S P) (hy : P y) (hn : nbr y x) (hx : S x = false) (hc : C x = c) : Fill C c S0 st (updB S x) (fun z => P z ∨ z = x) := by
  obtain ⟨f1, f2, f3, f4, f5⟩ := F
  have le : ∀ i, S i = true → updB S x i = true := fun i hi => by
    unfold updB
    by_cases e : i = x
    · rw [if_pos e]
    · rw [if_neg e, hi]
  refine ⟨fun i hi => le i (f1 i hi), le st f2, fun z hz h0 => ?_, fun z hz => ?_, fun T hT i hi => ?_⟩
  · by_cases e : z = x
    · exact Or.inl (Or.inr e)
    · have : S z = true := by unfold updB at hz; rw [if_neg e] at hz; exact hz
      rcases f3 z this h0 with p | p
      · exact Or.inl (Or.inl p)
      · exact Or.inr (fun x' a b => le x' (p x' a b))
  · rcases hz with p | p
    · obtain ⟨a, b, d⟩ := f4 z p
      exact ⟨a, le z b, d⟩
    · have p : z = x := p
      subst p
      refine ⟨hn.2.1, by unfold updB; rw [if_pos rfl], ?_⟩
      cases e : S0 z with
      | false => rfl
      | true => rw [f1 z e] at hx; exact absurd hx (by decide)
  · by_cases e : i = x
    · obtain ⟨a, b, d⟩ := f4 y hy
      rw [e]
      exact hT.2.2 y x (f5 T hT y b) d hn hc
    · have : S i = true := by unfold updB at hi; rw [if_neg e] at hi; exact hi
      exact f5 T hT i this
theorem Fill_P {C : Nat → Int32} {c : Int32} {S0 S : Nat → Bool} {st : Nat} {P P' : Nat → Prop} (F : Fill C c S0 st S P) (h1 : ∀ y, P y → P' y ∨ ∀ x, nbr y x → C x = c → S x = true) (h2 : ∀ y, P' y → P y) : Fill C c S0 st S P' := by
  obtain ⟨f1, f2, f3, f4, f5⟩ := F
  refine ⟨f1, f2, fun y hy h0 => ?_, fun y hy => f4 y (h2 y hy), f5⟩
  rcases f3 y hy h0 with p | p
  · exact h1 y p
  · exact Or.inr p
theorem Fill_one {C : Nat → Int32} {c : Int32} {S0 S S' : Nat → Bool} {st : Nat} (F : Fill C c S0 st S (fun _ => False)) (F' : Fill C c S0 st S' (fun _ => False)) (i : Nat) : S i = S' i := by
  have g (X : Nat → Bool) (G : Fill C c S0 st X (fun _ => False)) : good C c S0 st X := by
    refine ⟨G.1, G.2.1, fun y x h1 h2 h3 h4 => ?_⟩
    rcases G.2.2.1 y h1 h2 with p | p
    · exact p.elim
    · exact p x h3 h4
  cases h : S i with
  | true => exact (F.2.2.2.2 S' (g S' F') i h).symm
  | false =>
    cases h' : S' i with
    | false => rfl
    | true => rw [F'.2.2.2.2 S (g S F) i h'] at h; exact absurd h (by decide)
/-- the class's marks -/
def repC (C : Nat → Int32) (w : q_W) (S : Nat → Bool) (L : List Nat) : Prop := (∀ i, i < 256 → w.1 17 i = b01 (S i)) ∧ w.1 14 3 = nI L.length ∧ (∀ i, i < L.length → w.1 16 i = nI (L.getD i 0)) ∧ ∀ i, i < 256 → w.1 15 i = C i
def frQ (w w' : q_W) : Prop := (∀ c, c ≠ 14 → c ≠ 16 → c ≠ 17 → w'.1 c = w.1 c) ∧ (∀ k, k ≠ 3 → w'.1 14 k = w.1 14 k) ∧ w'.2 = w.2
theorem frQ_r (w : q_W) : frQ w w := ⟨fun _ _ _ _ => rfl, fun _ _ => rfl, rfl⟩
theorem frQ_t {a b c : q_W} (h : frQ a b) (h' : frQ b c) : frQ a c := ⟨fun q x y z => (h'.1 q x y z).trans (h.1 q x y z), fun k x => (h'.2.1 k x).trans (h.2.1 k x), h'.2.2.trans h.2.2⟩
theorem b01_inj {a : Bool} (h : b01 a = 0) : a = false := by
  cases a with
  | false => rfl
  | true => exact absurd h b01_t
/-- where a neighbour's coordinates point: to x, or out -/
def pts (y x : Nat) (a b : Int32) : Prop := (chk a 0 15 && chk b 0 15) = false ∧ ¬ nbr y x ∨ nbr y x ∧ a = nI (x / 16) ∧ b = nI (x % 16)
theorem chk15_nI {a : Nat} (h : a < 16) : chk (nI a) 0 15 = true := by
  rw [chk_iff, nI_toInt (by omega), show (0 : Int32).toInt = 0 from rfl, show (15 : Int32).toInt = 15 from rfl]
  omega
theorem queueC {C : Nat → Int32} {c : Int32} {S0 S : Nat → Bool} {st y x sz : Nat} {L : List Nat} {w : q_W} (F : Fill C c S0 st S (fun z => z ∈ L ∨ z = y)) (R : repC C w S L) (hs : cntB S 256 = cntB S0 256 + sz + L.length) {a b : Int32} (hp : pts y x a b) : ∃ w' S' L', fX8_queue 14 a b c w = some ((), w') ∧ Fill C c S0 st S' (fun z => z ∈ L' ∨ z = y) ∧ repC C w' S' L' ∧ cntB S' 256 = cntB S0 256 + sz + L'.length ∧ frQ w w' ∧ (∀ i, S i = true → S' i = true) ∧ (nbr y x → C x = c → S' x = true) := by
  obtain ⟨r1, r2, r3, r4⟩ := R
  unfold fX8_queue
  rw [if_pos (show cC 14 = 8 from rfl), isCell_ok, q_b_some]
  rcases hp with ⟨hp, hn⟩ | ⟨hn, ha, hb⟩
  · rw [hp, if_pos b01_f]
    exact ⟨w, S, L, rfl, F, ⟨r1, r2, r3, r4⟩, hs, frQ_r w, fun _ h => h, fun h => absurd h hn⟩
  · subst ha hb
    have hx : x < 256 := hn.2.1
    rw [chk15_nI (by omega), chk15_nI (by omega), if_neg (by decide), show (16 : Int32) = nI 16 from rfl, pk_mul, nI_add, show x / 16 * 16 + x % 16 = x by omega, q_lt_eq, if_pos (q_inb_nI hx (by omega)), q_ix_nI (by omega), show fC 14 2 = 17 from rfl, show fC 14 0 = 15 from rfl, show fC 14 1 = 16 from rfl, r1 x hx, r4 x hx]
    cases hS : S x with
    | true =>
      rw [if_neg b01_t]
      exact ⟨w, S, L, rfl, F, ⟨r1, r2, r3, r4⟩, hs, frQ_r w, fun _ h => h, fun _ _ => hS⟩
    | false =>
      rw [if_pos b01_f, if_pos (q_inb_nI hx (by omega))]
      by_cases hc : C x = c
      · have hlt := cntB_lt hS 256 hx
        rw [if_pos hc, r2, if_neg (nI_pos (by omega)), if_pos (by rw [show (256 : Int32) = nI 256 from rfl, nI_ltI (by omega) (by omega)]; omega), if_pos (q_inb_nI hx (by omega)), q_lt_eq, q_lt_eq]
        rw [sI_cell _ _ _ _ 14 (by decide), r2, if_pos (q_inb_nI (by omega) (by omega)), q_lt_eq, q_lt_eq, sI_cell _ _ _ _ 14 (by decide), sI_cell _ _ _ _ 14 (by decide), r2, nI_1, q_ix_nI (by omega)]
        refine ⟨_, updB S x, L ++ [x], rfl, ?_, ⟨fun i hi => ?_, ?_, fun i hi => ?_, fun i hi => ?_⟩, ?_, ⟨fun q h1 h2 h3 => ?_, fun k hk => ?_, rfl⟩, fun i hi => ?_, fun _ _ => ?_⟩
        · refine Fill_P (Fill_mark F (Or.inr rfl) hn hS hc) (fun z hz => Or.inl ?_) (fun z hz => ?_)
          · rcases hz with (hz | hz) | hz
            · exact Or.inl (List.mem_append.mpr (Or.inl hz))
            · exact Or.inr hz
            · exact Or.inl (List.mem_append.mpr (Or.inr (List.mem_singleton.mpr hz)))
          · rcases hz with hz | hz
            · rcases List.mem_append.mp hz with hz | hz
              · exact Or.inl (Or.inl hz)
              · exact Or.inr (List.mem_singleton.mp hz)
            · exact Or.inl (Or.inr hz)
        · rw [sI_cell _ _ _ _ 17 (by decide), sI_cell _ _ _ _ 17 (by decide)]
          unfold updB
          by_cases e : i = x
          · subst e; rw [sI_same, if_pos rfl]; rfl
          · rw [sI_k _ _ _ _ _ e, if_neg e, r1 i hi]
        · rw [sI_same, List.length_append]; rfl
        · rw [List.length_append, show [x].length = 1 from rfl] at hi
          rw [sI_cell _ _ _ _ 16 (by decide)]
          by_cases e : i = L.length
          · subst e; rw [sI_same, snoc_eq]
          · rw [sI_k _ _ _ _ _ e, snoc_lt (by omega), sI_cell _ _ _ _ 16 (by decide), r3 i (by omega)]
        · rw [sI_cell _ _ _ _ 15 (by decide), sI_cell _ _ _ _ 15 (by decide), sI_cell _ _ _ _ 15 (by decide), r4 i hi]
        · rw [cntB_upd hS 256 hx, hs, List.length_append]; show _ = _ + _ + (L.length + 1); omega
        · rw [sI_cell _ _ _ _ _ h1, sI_cell _ _ _ _ _ h2, sI_cell _ _ _ _ _ h3]
        · rw [sI_k _ _ _ _ _ hk, sI_cell _ _ _ _ _ (by decide), sI_cell _ _ _ _ _ (by decide)]
        · unfold updB
          by_cases e : i = x
          · rw [if_pos e]
          · rw [if_neg e]; exact hi
        · unfold updB; rw [if_pos rfl]
      · rw [if_neg hc]
        exact ⟨w, S, L, rfl, F, ⟨r1, r2, r3, r4⟩, hs, frQ_r w, fun _ h => h, fun _ h => absurd h hc⟩
/-- the four neighbours of y -/
theorem pts1 {y : Nat} (hy : y < 256) : ∃ x, pts y x (nI (y / 16) - 1) (nI (y % 16)) ∧ (16 ≤ y → x + 16 = y) := by
  by_cases h : 16 ≤ y
  · refine ⟨y - 16, Or.inr ⟨⟨hy, by omega, Or.inl (by omega)⟩, ?_, ?_⟩, fun _ => by omega⟩
    · rw [show (1 : Int32) = nI 1 from rfl, pk_sub (by omega)]; congr 1; omega
    · congr 1; omega
  · refine ⟨y, Or.inl ⟨?_, ?_⟩, fun c => absurd c h⟩
    · rw [show y / 16 = 0 by omega]; rfl
    · rintro ⟨_, _, c⟩; omega
theorem pts2 {y : Nat} (hy : y < 256) : ∃ x, pts y x (nI (y / 16) + 1) (nI (y % 16)) ∧ (y < 240 → x = y + 16) := by
  by_cases h : y < 240
  · refine ⟨y + 16, Or.inr ⟨⟨hy, by omega, Or.inr (Or.inl rfl)⟩, ?_, ?_⟩, fun _ => rfl⟩
    · rw [nI_1]; congr 1; omega
    · congr 1; omega
  · refine ⟨y, Or.inl ⟨?_, ?_⟩, fun c => absurd c h⟩
    · rw [nI_1, show y / 16 + 1 = 16 by omega]; rfl
    · rintro ⟨_, _, c⟩; omega
theorem pts3 {y : Nat} (hy : y < 256) : ∃ x, pts y x (nI (y / 16)) (nI (y % 16) - 1) ∧ (y % 16 ≠ 0 → x + 1 = y) := by
  by_cases h : y % 16 ≠ 0
  · refine ⟨y - 1, Or.inr ⟨⟨hy, by omega, Or.inr (Or.inr (Or.inl ⟨by omega, h⟩))⟩, ?_, ?_⟩, fun _ => by omega⟩
    · congr 1; omega
    · rw [show (1 : Int32) = nI 1 from rfl, pk_sub (by omega)]; congr 1; omega
  · refine ⟨y, Or.inl ⟨?_, ?_⟩, fun c => absurd c h⟩
    · rw [show y % 16 = 0 by omega, Bool.and_comm]; rfl
    · rintro ⟨_, _, c⟩; omega
theorem pts4 {y : Nat} (hy : y < 256) : ∃ x, pts y x (nI (y / 16)) (nI (y % 16) + 1) ∧ (y % 16 ≠ 15 → x = y + 1) := by
  by_cases h : y % 16 ≠ 15
  · refine ⟨y + 1, Or.inr ⟨⟨hy, by omega, Or.inr (Or.inr (Or.inr ⟨rfl, h⟩))⟩, ?_, ?_⟩, fun _ => rfl⟩
    · congr 1; omega
    · rw [nI_1]; congr 1; omega
  · refine ⟨y, Or.inl ⟨?_, ?_⟩, fun c => absurd c h⟩
    · rw [nI_1, show y % 16 + 1 = 16 by omega, Bool.and_comm]; rfl
    · rintro ⟨_, _, c⟩; omega
theorem nbr_four {y x x1 x2 x3 x4 : Nat} (h : nbr y x) (h1 : 16 ≤ y → x1 + 16 = y) (h2 : y < 240 → x2 = y + 16) (h3 : y % 16 ≠ 0 → x3 + 1 = y) (h4 : y % 16 ≠ 15 → x4 = y + 1) : x = x1 ∨ x = x2 ∨ x = x3 ∨ x = x4 := by
  obtain ⟨a, b, c⟩ := h
  omega
theorem dropLast_snoc {L : List Nat} (h : L ≠ []) : ∃ M y, L = M ++ [y] := ⟨L.dropLast, L.getLast h, (List.dropLast_concat_getLast h).symm⟩
theorem sizeC_lok {C : Nat → Int32} {c : Int32} {S0 : Nat → Bool} {st : Nat} : ∀ d N tn L S (w : q_W), tn + d = 256 → d < N → Fill C c S0 st S (fun z => z ∈ L) → repC C w S L → cntB S 256 = cntB S0 256 + tn + L.length → ∃ w' S', q_it N (fX8_sizeFrom_h25 14) (fun _ _ _ _ => none) c (nI tn) (nI tn) w = some (nI (cntB S' 256 - cntB S0 256), w') ∧ Fill C c S0 st S' (fun _ => False) ∧ repC C w' S' [] ∧ frQ w w' := by
  intro d
  induction d with
  | zero =>
    intro N tn L S w h1 hN F R hs
    obtain ⟨N, rfl⟩ : ∃ M, N = M + 1 := ⟨N - 1, by omega⟩
    have hc := cntB_le S 256
    have hL : L = [] := List.eq_nil_of_length_eq_zero (by omega)
    subst hL
    rw [q_itS, fX8_sizeFrom_h25, if_pos (by rw [show (256 : Int32) = nI 256 from rfl, nI_leI (by omega) (by omega)]; omega)]
    refine ⟨w, S, ?_, Fill_P F (fun y hy => by cases hy) (fun y hy => hy.elim), R, frQ_r w⟩
    rw [hs, show cntB S0 256 + tn + ([] : List Nat).length - cntB S0 256 = tn by show cntB S0 256 + tn + 0 - cntB S0 256 = tn; omega]
  | succ d ih =>
    intro N tn L S w h1 hN F R hs
    obtain ⟨N, rfl⟩ : ∃ M, N = M + 1 := ⟨N - 1, by omega⟩
    have hc := cntB_le S 256
    rw [q_itS, fX8_sizeFrom_h25, if_neg (by rw [show (256 : Int32) = nI 256 from rfl, nI_leI (by omega) (by omega)]; omega), R.2.1]
    by_cases hL : L = []
    · subst hL
      rw [if_pos (show nI ([] : List Nat).length ≤ 0 by decide)]
      refine ⟨w, S, ?_, Fill_P F (fun y hy => by cases hy) (fun y hy => hy.elim), R, frQ_r w⟩
      rw [hs, show cntB S0 256 + tn + ([] : List Nat).length - cntB S0 256 = tn by show cntB S0 256 + tn + 0 - cntB S0 256 = tn; omega]
    · obtain ⟨M, y, rfl⟩ := dropLast_snoc hL
      have hlen : (M ++ [y]).length = M.length + 1 := by rw [List.length_append]; rfl
      rw [hlen] at hs ⊢
      obtain ⟨hy, hyS, hy0⟩ := F.2.2.2.1 y (List.mem_append.mpr (Or.inr (List.mem_singleton.mpr rfl)))
      have hrd : w.1 16 M.length = nI y := by rw [R.2.2.1 M.length (by omega), snoc_eq]
      rw [if_neg (nI_nle (by omega) (by omega)), if_neg (by rw [show (256 : Int32) = nI 256 from rfl, nI_ltI (by omega) (by omega)]; omega), nI_pred, q_lt_eq, q_lt_eq, sI_same, if_pos (q_inb_nI (by omega) (by omega)), q_lt_eq, q_lt_eq, nI_1, show fC 14 1 = 16 from rfl, sI_cell _ _ _ _ 16 (by decide), q_ix_nI (by omega), hrd, show (16 : Int32) = nI 16 from rfl, pk_rem (by omega) (by decide) (by decide), pk_div (by omega) (by decide) (by decide)]
      have f0 : frQ w (q_sI w 14 3 (nI M.length)) := ⟨fun q a _ _ => sI_cell _ _ _ _ _ a, fun k hk => sI_k _ _ _ _ _ hk, rfl⟩
      have R0 : repC C (q_sI w 14 3 (nI M.length)) S M := ⟨fun i hi => by rw [sI_cell _ _ _ _ 17 (by decide)]; exact R.1 i hi, sI_same _ _ _ _, fun i hi => by rw [sI_cell _ _ _ _ 16 (by decide), R.2.2.1 i (by omega), snoc_lt hi], fun i hi => by rw [sI_cell _ _ _ _ 15 (by decide)]; exact R.2.2.2 i hi⟩
      have F0 : Fill C c S0 st S (fun z => z ∈ M ∨ z = y) := Fill_P F (fun z hz => Or.inl (by
        rcases List.mem_append.mp hz with q | q
        · exact Or.inl q
        · exact Or.inr (List.mem_singleton.mp q))) (fun z hz => by
        rcases hz with q | q
        · exact List.mem_append.mpr (Or.inl q)
        · exact List.mem_append.mpr (Or.inr (List.mem_singleton.mpr q)))
      obtain ⟨x1, p1, q1⟩ := pts1 hy
      obtain ⟨x2, p2, q2⟩ := pts2 hy
      obtain ⟨x3, p3, q3⟩ := pts3 hy
      obtain ⟨x4, p4, q4⟩ := pts4 hy
      obtain ⟨w1, S1, L1, e1, F1, R1, s1, f1, m1, n1⟩ := queueC (sz := tn + 1) F0 R0 (by omega) p1
      obtain ⟨w2, S2, L2, e2, F2, R2, s2, f2, m2, n2⟩ := queueC (sz := tn + 1) F1 R1 s1 p2
      obtain ⟨w3, S3, L3, e3, F3, R3, s3, f3, m3, n3⟩ := queueC (sz := tn + 1) F2 R2 s2 p3
      obtain ⟨w4, S4, L4, e4, F4, R4, s4, f4, m4, n4⟩ := queueC (sz := tn + 1) F3 R3 s3 p4
      rw [e1, q_b_some, e2, q_b_some, e3, q_b_some, e4, q_b_some, q_lt_eq]
      have F5 : Fill C c S0 st S4 (fun z => z ∈ L4) := by
        refine Fill_P F4 (fun z hz => ?_) (fun z hz => Or.inl hz)
        rcases hz with hz | hz
        · exact Or.inl hz
        · have hz : z = y := hz
          subst hz
          refine Or.inr (fun x hn hx => ?_)
          rcases nbr_four hn q1 q2 q3 q4 with rfl | rfl | rfl | rfl
          · exact m4 _ (m3 _ (m2 _ (n1 hn hx)))
          · exact m4 _ (m3 _ (n2 hn hx))
          · exact m4 _ (n3 hn hx)
          · exact n4 hn hx
      obtain ⟨w', S', e, F', R', f'⟩ := ih N (tn + 1) L4 S4 w4 (by omega) (by omega) F5 R4 s4
      exact ⟨w', S', e, F', R', frQ_t f0 (frQ_t f1 (frQ_t f2 (frQ_t f3 (frQ_t f4 f'))))⟩
