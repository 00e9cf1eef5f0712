/-! pieces, largest -/
def repR (C : Nat → Int32) (w : q_W) (S : Nat → Bool) (L : List Nat) : Prop := (∀ i, i < 256 → C i ≠ -1 → w.1 33 i = b01 (S i)) ∧ w.1 0 68 = nI L.length ∧ (∀ i, i < L.length → w.1 34 i = nI (L.getD i 0)) ∧ ∀ i, i < 256 → w.1 32 i = C i
def frZ (w w' : q_W) : Prop := (∀ c, c ≠ 0 → c ≠ 33 → c ≠ 34 → w'.1 c = w.1 c) ∧ (∀ k, k ≠ 68 → w'.1 0 k = w.1 0 k) ∧ w'.2 = w.2
theorem frZ_r (w : q_W) : frZ w w := ⟨fun _ _ _ _ => rfl, fun _ _ => rfl, rfl⟩
theorem frZ_t {a b c : q_W} (h : frZ a b) (h' : frZ b c) : frZ a c := ⟨fun q x y z => (h'.1 q x y z).trans (h.1 q x y z), fun k x => (h'.2.1 k x).trans (h.2.1 k x), h'.2.2.trans h.2.2⟩
/-- a mark in the reference's world -/
theorem markR {C : Nat → Int32} {S : Nat → Bool} {x : Nat} {L : List Nat} {w : q_W} (R : repR C w S L) (hx : x < 256) (hl : L.length < 256) : ∃ w', (q_lt (nI x) fun y7 => if q_inb y7 256 then q_lt (q_sI w 33 (q_ix y7) (vp_nar .boolean 1)) fun w8 => q_lt (w8.1 0 68) fun y9 => if q_inb y9 256 then q_lt (q_sI w8 34 (q_ix y9) (nI x)) fun w10 => q_lt (q_sI w10 0 68 ((w10.1 0 68) + 1)) fun w11 => some ((), w11) else none else none) = some ((), w') ∧ repR C w' (updB S x) (L ++ [x]) ∧ frZ w w' := by
  obtain ⟨r1, r2, r3, r4⟩ := R
  rw [q_lt_eq, if_pos (q_inb_nI hx (by omega)), q_lt_eq, q_lt_eq, sI_cell _ _ _ _ 0 (by decide), r2, if_pos (q_inb_nI (by omega) (by omega)), q_lt_eq, q_lt_eq, sI_cell _ _ _ _ 0 (by decide), sI_cell _ _ _ _ 0 (by decide), r2, nI_1, q_ix_nI (by omega), q_ix_nI (by omega)]
  refine ⟨_, rfl, ⟨fun i hi hc => ?_, ?_, fun i hi => ?_, fun i hi => ?_⟩, ⟨fun q h1 h2 h3 => ?_, fun k hk => ?_, rfl⟩⟩
  · rw [sI_cell _ _ _ _ 33 (by decide), sI_cell _ _ _ _ 33 (by decide)]
    unfold updB
    by_cases e : i = x
    · subst e; rw [sI_same, if_pos rfl]; rfl
    · rw [sI_k _ _ _ _ _ e, if_neg e, r1 i hi hc]
  · rw [sI_same, List.length_append]; rfl
  · rw [List.length_append, show [x].length = 1 from rfl] at hi
    rw [sI_cell _ _ _ _ 34 (by decide)]
    by_cases e : i = L.length
    · subst e; rw [sI_same, snoc_eq]
    · rw [sI_k _ _ _ _ _ e, snoc_lt (by omega), sI_cell _ _ _ _ 34 (by decide), r3 i (by omega)]
  · rw [sI_cell _ _ _ _ 32 (by decide), sI_cell _ _ _ _ 32 (by decide), sI_cell _ _ _ _ 32 (by decide), r4 i hi]
  · rw [sI_cell _ _ _ _ _ h1, sI_cell _ _ _ _ _ h3, sI_cell _ _ _ _ _ h2]
  · rw [sI_k _ _ _ _ _ hk, sI_cell _ _ _ _ _ (by decide), sI_cell _ _ _ _ _ (by decide)]
theorem meetsR {C : Nat → Int32} {c : Int32} (hcb : c ≠ -1) {S0 S : Nat → Bool} {st y x : Nat} {B D : List Nat} {w : q_W} (F : Fill C c S0 st S (fun z => z ∈ D ∨ z = y)) (R : repR C w S (B ++ D)) (hs : cntB S 256 = cntB S0 256 + (B ++ D).length) {a b : Int32} (hp : pts y x a b) : ∃ w' S' D', fX11_meets c a b w = some ((), w') ∧ Fill C c S0 st S' (fun z => z ∈ D' ∨ z = y) ∧ repR C w' S' (B ++ D') ∧ cntB S' 256 = cntB S0 256 + (B ++ D').length ∧ frZ w w' ∧ (∀ i, S i = true → S' i = true) ∧ (nbr y x → C x = c → S' x = true) := by
  have R' := R
  obtain ⟨r1, r2, r3, r4⟩ := R
  unfold fX11_meets
  rw [in_ok, q_b_some]
  rcases hp with ⟨hp, hn⟩ | ⟨hn, ha, hb⟩
  · refine ⟨w, S, D, ?_, F, R', hs, frZ_r w, fun _ h => h, fun h => absurd h hn⟩
    cases h1 : chk a 0 15 with
    | false => rw [if_pos b01_f]
    | true =>
      rw [h1, Bool.true_and] at hp
      rw [if_neg b01_t, in_ok, q_b_some, hp, if_pos b01_f]
  · subst ha hb
    have hx : x < 256 := hn.2.1
    rw [chk15_nI (by omega), if_neg b01_t, in_ok, q_b_some, chk15_nI (by omega), if_neg b01_t, show (16 : Int32) = nI 16 from rfl, pk_mul, nI_add, show 16 * (x / 16) + x % 16 = x by omega, q_lt_eq, if_pos (q_inb_nI hx (by omega)), q_ix_nI (by omega)]
    rw [q_lt_eq, if_pos (show q_inb (nI x) 512 from q_inb_nI (by omega) (by omega)), q_ix_nI (by omega), r4 x hx]
    by_cases hc : C x = c
    · rw [r1 x hx (by rw [hc]; exact hcb)]
      cases hS : S x with
      | true =>
        rw [if_neg b01_t]
        exact ⟨w, S, D, rfl, F, R', hs, frZ_r w, fun _ h => h, fun _ _ => hS⟩
      | false =>
        have hlt := cntB_lt hS 256 hx
        rw [if_pos b01_f, if_pos hc]
        obtain ⟨w', e, R2, f⟩ := markR R' hx (by omega)
        rw [e]
        refine ⟨w', updB S x, D ++ [x], rfl, ?_, by rw [← List.append_assoc]; exact R2, ?_, f, fun i hi => ?_, fun _ _ => ?_⟩
        · refine Fill_P (Fill_mark F (Or.inr rfl) hn hS hc) (fun z hz => Or.inl ?_) (fun z hz => ?_)
          · rcases hz with (hz | hz) | hz
            · exact Or.inl (List.mem_append.mpr (Or.inl hz))
            · exact Or.inr hz
            · exact Or.inl (List.mem_append.mpr (Or.inr (List.mem_singleton.mpr hz)))
          · rcases hz with hz | hz
            · rcases List.mem_append.mp hz with hz | hz
              · exact Or.inl (Or.inl hz)
              · exact Or.inr (List.mem_singleton.mp hz)
            · exact Or.inl (Or.inr hz)
        · have hu := cntB_upd hS 256 hx
          have hl2 : (B ++ (D ++ [x])).length = (B ++ D).length + 1 := by rw [← List.append_assoc, List.length_append (as := B ++ D)]; rfl
          omega
        · unfold updB
          by_cases e : i = x
          · rw [if_pos e]
          · rw [if_neg e]; exact hi
        · unfold updB; rw [if_pos rfl]
    · refine ⟨w, S, D, ?_, F, R', hs, frZ_r w, fun _ h => h, fun _ h => absurd h hc⟩
      rw [if_neg hc]
      by_cases c0 : w.1 33 x = 0
      · rw [if_pos c0]
      · rw [if_neg c0]
/-- what the reference's fill leaves alone -/
def frZ2 (w w' : q_W) : Prop := (∀ c, c ≠ 0 → c ≠ 33 → c ≠ 34 → w'.1 c = w.1 c) ∧ (∀ k, k ≠ 68 → k ≠ 64 → k ≠ 65 → w'.1 0 k = w.1 0 k) ∧ w'.2 = w.2
theorem frZ2_t {a b c : q_W} (h : frZ2 a b) (h' : frZ2 b c) : frZ2 a c := ⟨fun q x y z => (h'.1 q x y z).trans (h.1 q x y z), fun k x y z => (h'.2.1 k x y z).trans (h.2.1 k x y z), h'.2.2.trans h.2.2⟩
theorem frZ2_Z {w w' : q_W} (h : frZ w w') : frZ2 w w' := ⟨h.1, fun k a _ _ => h.2.1 k a, h.2.2⟩
theorem frZ2_r (w : q_W) : frZ2 w w := frZ2_Z (frZ_r w)
theorem frZ2_0 (w : q_W) (k : Nat) (x : Int32) (h : k = 68 ∨ k = 64 ∨ k = 65) : frZ2 w (q_sI w 0 k x) := ⟨fun q h0 _ _ => sI_cell _ _ _ _ _ h0, fun k' h1 h2 h3 => sI_k _ _ _ _ _ (by omega), rfl⟩
theorem sizeR_lok {C : Nat → Int32} {S0 : Nat → Bool} {st k : Nat} (hk : k < 256) (hcb : C k ≠ -1) (rec34 : Int32 → q_W → Option (Unit × q_W)) : ∀ d N B D S (w : q_W), B.length + d = 256 → d < N → Fill C (C k) S0 st S (fun z => z ∈ D) → repR C w S (B ++ D) → cntB S 256 = cntB S0 256 + (B ++ D).length → ∃ w' S' L, q_it N (fX11_hangs_h88 rec34) (fun _ _ _ => none) (nI k) (nI B.length) w = rec34 (nI (k + 1)) w' ∧ Fill C (C k) S0 st S' (fun _ => False) ∧ repR C w' S' L ∧ frZ2 w w' ∧ w'.1 0 64 = w.1 0 64 + 1 ∧ w'.1 0 65 = if nI (cntB S' 256 - cntB S0 256) ≤ w.1 0 65 then w.1 0 65 else nI (cntB S' 256 - cntB S0 256) := by
  intro d
  induction d with
  | zero =>
    intro N B D S w h1 hN F R hs
    obtain ⟨N, rfl⟩ : ∃ M, N = M + 1 := ⟨N - 1, by omega⟩
    have hc := cntB_le S 256
    have hD : D = [] := by
      apply List.eq_nil_of_length_eq_zero
      rw [List.length_append] at hs
      omega
    subst hD
    rw [List.append_nil] at R hs
    have eb : cntB S 256 - cntB S0 256 = B.length := by omega
    rw [q_itS, fX11_hangs_h88, R.2.1, if_pos (by rw [nI_leI (by omega) (by omega)]; omega), q_lt_eq, sI_k _ _ _ _ _ (show 68 ≠ 64 by decide), sI_k _ _ _ _ _ (show 65 ≠ 64 by decide), R.2.1]
    unfold fX11_hangs_n212
    rw [q_lt_eq, q_lt_eq, q_lt_eq, nI_1]
    have g := Fill_P F (P' := fun _ => False) (fun y hy => by cases hy) (fun y hy => hy.elim)
    have rp (w' : q_W) (f : frZ2 w w') (e33 : w'.1 33 = w.1 33) (e34 : w'.1 34 = w.1 34) (e68 : w'.1 0 68 = w.1 0 68) : repR C w' S B := ⟨fun i hi hc => by rw [e33]; exact R.1 i hi hc, by rw [e68]; exact R.2.1, fun i hi => by rw [e34]; exact R.2.2.1 i hi, fun i hi => by rw [f.1 32 (by decide) (by decide) (by decide)]; exact R.2.2.2 i hi⟩
    by_cases hb : nI B.length ≤ w.1 0 65
    · rw [if_pos hb]
      refine ⟨_, S, B, rfl, g, rp _ (frZ2_0 w 64 _ (Or.inr (Or.inl rfl))) (sI_cell _ _ _ _ _ (by decide)) (sI_cell _ _ _ _ _ (by decide)) (sI_k _ _ _ _ _ (by decide)), frZ2_0 w 64 _ (Or.inr (Or.inl rfl)), sI_same _ _ _ _, ?_⟩
      rw [eb, if_pos hb, sI_k _ _ _ _ _ (by decide)]
    · rw [if_neg hb]
      have f2 := frZ2_t (frZ2_0 w 64 (w.1 0 64 + 1) (Or.inr (Or.inl rfl))) (frZ2_0 (q_sI w 0 64 (w.1 0 64 + 1)) 65 (nI B.length) (Or.inr (Or.inr rfl)))
      refine ⟨_, S, B, rfl, g, rp _ f2 (by rw [sI_cell _ _ _ _ _ (by decide), sI_cell _ _ _ _ _ (by decide)]) (by rw [sI_cell _ _ _ _ _ (by decide), sI_cell _ _ _ _ _ (by decide)]) (by rw [sI_k _ _ _ _ _ (by decide), sI_k _ _ _ _ _ (by decide)]), f2, ?_, ?_⟩
      · rw [sI_k _ _ _ _ _ (by decide), sI_same]
      · rw [sI_same, eb, if_neg hb]
  | succ d ih =>
    intro N B D S w h1 hN F R hs
    obtain ⟨N, rfl⟩ : ∃ M, N = M + 1 := ⟨N - 1, by omega⟩
    have hc := cntB_le S 256
    by_cases hD : D = []
    · subst hD
      rw [List.append_nil] at R hs
      have eb : cntB S 256 - cntB S0 256 = B.length := by omega
      rw [q_itS, fX11_hangs_h88, R.2.1, if_pos (by rw [nI_leI (by omega) (by omega)]; omega), q_lt_eq, sI_k _ _ _ _ _ (show 68 ≠ 64 by decide), sI_k _ _ _ _ _ (show 65 ≠ 64 by decide), R.2.1]
      unfold fX11_hangs_n212
      rw [q_lt_eq, q_lt_eq, q_lt_eq, nI_1]
      have g := Fill_P F (P' := fun _ => False) (fun y hy => by cases hy) (fun y hy => hy.elim)
      have rp (w' : q_W) (f : frZ2 w w') (e33 : w'.1 33 = w.1 33) (e34 : w'.1 34 = w.1 34) (e68 : w'.1 0 68 = w.1 0 68) : repR C w' S B := ⟨fun i hi hc => by rw [e33]; exact R.1 i hi hc, by rw [e68]; exact R.2.1, fun i hi => by rw [e34]; exact R.2.2.1 i hi, fun i hi => by rw [f.1 32 (by decide) (by decide) (by decide)]; exact R.2.2.2 i hi⟩
      by_cases hb : nI B.length ≤ w.1 0 65
      · rw [if_pos hb]
        refine ⟨_, S, B, rfl, g, rp _ (frZ2_0 w 64 _ (Or.inr (Or.inl rfl))) (sI_cell _ _ _ _ _ (by decide)) (sI_cell _ _ _ _ _ (by decide)) (sI_k _ _ _ _ _ (by decide)), frZ2_0 w 64 _ (Or.inr (Or.inl rfl)), sI_same _ _ _ _, ?_⟩
        rw [eb, if_pos hb, sI_k _ _ _ _ _ (by decide)]
      · rw [if_neg hb]
        have f2 := frZ2_t (frZ2_0 w 64 (w.1 0 64 + 1) (Or.inr (Or.inl rfl))) (frZ2_0 (q_sI w 0 64 (w.1 0 64 + 1)) 65 (nI B.length) (Or.inr (Or.inr rfl)))
        refine ⟨_, S, B, rfl, g, rp _ f2 (by rw [sI_cell _ _ _ _ _ (by decide), sI_cell _ _ _ _ _ (by decide)]) (by rw [sI_cell _ _ _ _ _ (by decide), sI_cell _ _ _ _ _ (by decide)]) (by rw [sI_k _ _ _ _ _ (by decide), sI_k _ _ _ _ _ (by decide)]), f2, ?_, ?_⟩
        · rw [sI_k _ _ _ _ _ (by decide), sI_same]
        · rw [sI_same, eb, if_neg hb]
    · obtain ⟨y, D1, rfl⟩ : ∃ y D1, D = y :: D1 := by
        cases D with
        | nil => exact absurd rfl hD
        | cons y D1 => exact ⟨y, D1, rfl⟩
      have eL : B ++ y :: D1 = (B ++ [y]) ++ D1 := by rw [List.append_assoc]; rfl
      have hlB : (B ++ [y]).length = B.length + 1 := by rw [List.length_append]; rfl
      rw [eL] at R hs
      have hll : ((B ++ [y]) ++ D1).length = B.length + 1 + D1.length := by rw [List.length_append, hlB]
      obtain ⟨hy, hyS, hy0⟩ := F.2.2.2.1 y List.mem_cons_self
      have hrd : w.1 34 B.length = nI y := by
        rw [R.2.2.1 B.length (by omega), List.getD_eq_getElem?_getD, List.getElem?_append_left (by omega), ← List.getD_eq_getElem?_getD, snoc_eq]
      have ib : q_inb (nI B.length) 256 := q_inb_nI (by omega) (by omega)
      have ik : q_inb (nI k) 512 := q_inb_nI (by omega) (by omega)
      rw [q_itS, fX11_hangs_h88, R.2.1, if_neg (by rw [nI_leI (by omega) (by omega)]; omega), if_pos ib, q_lt_eq, if_pos ib, q_lt_eq, q_lt_eq, q_ix_nI (show B.length < 2 ^ 31 by omega), hrd, show (16 : Int32) = nI 16 from rfl, pk_rem (by omega) (by decide) (by decide), pk_div (by omega) (by decide) (by decide), if_pos ik, q_ix_nI (by omega), R.2.2.2 k hk]
      have F0 : Fill C (C k) S0 st S (fun z => z ∈ D1 ∨ z = y) := Fill_P F (fun z hz => Or.inl (by
        rcases List.mem_cons.mp hz with q | q
        · exact Or.inr q
        · exact Or.inl q)) (fun z hz => by
        rcases hz with q | q
        · exact List.mem_cons_of_mem _ q
        · exact List.mem_cons.mpr (Or.inl q))
      obtain ⟨x1, p1, q1⟩ := pts1 hy
      obtain ⟨x2, p2, q2⟩ := pts2 hy
      obtain ⟨x3, p3, q3⟩ := pts3 hy
      obtain ⟨x4, p4, q4⟩ := pts4 hy
      obtain ⟨w1, S1, L1, e1, F1, R1, s1, f1, m1, n1⟩ := meetsR hcb F0 R hs p1
      obtain ⟨w2, S2, L2, e2, F2, R2, s2, f2, m2, n2⟩ := meetsR hcb F1 R1 s1 p2
      obtain ⟨w3, S3, L3, e3, F3, R3, s3, f3, m3, n3⟩ := meetsR hcb F2 R2 s2 p3
      obtain ⟨w4, S4, L4, e4, F4, R4, s4, f4, m4, n4⟩ := meetsR hcb F3 R3 s3 p4
      rw [e1, q_b_some, if_pos ik, R1.2.2.2 k hk, e2, q_b_some, if_pos ik, R2.2.2.2 k hk, e3, q_b_some, if_pos ik, R3.2.2.2 k hk, e4, q_b_some, q_lt_eq, nI_1]
      have F5 : Fill C (C k) S0 st S4 (fun z => z ∈ L4) := by
        refine Fill_P F4 (fun z hz => ?_) (fun z hz => Or.inl hz)
        rcases hz with hz | hz
        · exact Or.inl hz
        · have hz : z = y := hz
          subst hz
          refine Or.inr (fun x hn hx => ?_)
          rcases nbr_four hn q1 q2 q3 q4 with rfl | rfl | rfl | rfl
          · exact m4 _ (m3 _ (m2 _ (n1 hn hx)))
          · exact m4 _ (m3 _ (n2 hn hx))
          · exact m4 _ (n3 hn hx)
          · exact n4 hn hx
      have ff := frZ_t f1 (frZ_t f2 (frZ_t f3 f4))
      obtain ⟨w', S', L', e, F', R', f', g1, g2⟩ := ih N (B ++ [y]) L4 S4 w4 (by omega) (by omega) F5 R4 s4
      rw [hlB] at e
      refine ⟨w', S', L', e, F', R', frZ2_t (frZ2_Z ff) f', ?_, ?_⟩
      · rw [g1, ff.2.1 64 (by decide)]
      · rw [g2, ff.2.1 65 (by decide)]
/-- the fills start -/
theorem startC {C : Nat → Int32} {S : Nat → Bool} {k : Nat} (hk : k < 256) {w : q_W} (R1' : ∀ i, i < 256 → w.1 17 i = b01 (S i)) (R4' : ∀ i, i < 256 → w.1 15 i = C i) (hS : S k = false) : ∃ w' S', fX8_sizeFrom 14 (nI (k / 16)) (nI (k % 16)) w = some (nI (cntB S' 256 - cntB S 256), w') ∧ Fill C (C k) S k S' (fun _ => False) ∧ repC C w' S' [] ∧ frQ w w' := by
  have hlt := cntB_lt hS 256 hk
  unfold fX8_sizeFrom fX8_sizeFrom_l25
  rw [if_pos (show cC 14 = 8 from rfl), colQ (Or.inl rfl) (by omega) (by omega), q_b_some, show 16 * (k / 16) + k % 16 = k by omega, q_lt_eq, R4' k hk]
  have f0 : frQ w (q_sI w 14 3 0) := ⟨fun q a _ _ => sI_cell _ _ _ _ _ a, fun k hk => sI_k _ _ _ _ _ hk, rfl⟩
  unfold fX8_queue
  rw [if_pos (show cC 14 = 8 from rfl), isCell_ok, q_b_some, chk15_nI (by omega), chk15_nI (by omega), if_neg (by decide), show (16 : Int32) = nI 16 from rfl, pk_mul, nI_add, show k / 16 * 16 + k % 16 = k by omega, q_lt_eq, if_pos (q_inb_nI hk (by omega)), q_ix_nI (by omega), show fC 14 2 = 17 from rfl, show fC 14 0 = 15 from rfl, show fC 14 1 = 16 from rfl, sI_cell _ _ _ _ 17 (by decide), R1' k hk, hS, if_pos b01_f, if_pos (q_inb_nI hk (by omega)), sI_cell _ _ _ _ 15 (by decide), R4' k hk, if_pos rfl, sI_same, if_neg (by decide), if_pos (by decide), if_pos (q_inb_nI hk (by omega)), q_lt_eq, q_lt_eq, sI_cell _ _ _ _ 14 (by decide), sI_same, if_pos (by decide), q_lt_eq, q_lt_eq, sI_cell _ _ _ _ 14 (by decide), sI_cell _ _ _ _ 14 (by decide), sI_same, q_b_some, show q_ix 0 = 0 from rfl]
  generalize hw : q_sI (q_sI (q_sI (q_sI w 14 3 0) 17 k (vp_nar .boolean 1)) 16 0 (nI k)) 14 3 (0 + 1) = w1
  have R1 : repC C w1 (updB S k) [k] := by
    subst hw
    refine ⟨fun i hi => ?_, sI_same _ _ _ _, fun i hi => ?_, fun i hi => ?_⟩
    · rw [sI_cell _ _ _ _ 17 (by decide), sI_cell _ _ _ _ 17 (by decide)]
      unfold updB
      by_cases e : i = k
      · subst e; rw [sI_same, if_pos rfl]; rfl
      · rw [sI_k _ _ _ _ _ e, if_neg e, sI_cell _ _ _ _ 17 (by decide), R1' i hi]
    · have : i = 0 := by have : [k].length = 1 := rfl; omega
      subst this
      rw [sI_cell _ _ _ _ 16 (by decide), sI_same]
      rfl
    · rw [sI_cell _ _ _ _ 15 (by decide), sI_cell _ _ _ _ 15 (by decide), sI_cell _ _ _ _ 15 (by decide), sI_cell _ _ _ _ 15 (by decide), R4' i hi]
  have f1 : frQ w w1 := by
    subst hw
    refine ⟨fun q h1 h2 h3 => ?_, fun j hj => ?_, rfl⟩
    · rw [sI_cell _ _ _ _ _ h1, sI_cell _ _ _ _ _ h2, sI_cell _ _ _ _ _ h3, sI_cell _ _ _ _ _ h1]
    · rw [sI_k _ _ _ _ _ hj, sI_cell _ _ _ _ _ (by decide), sI_cell _ _ _ _ _ (by decide), sI_k _ _ _ _ _ hj]
  have F1 : Fill C (C k) S k (updB S k) (fun z => z ∈ [k]) := Fill_P (Fill_start hS hk) (fun y hy => Or.inl (List.mem_singleton.mpr hy)) (fun y hy => List.mem_singleton.mp hy)
  obtain ⟨w', S', e, F', R', f'⟩ := sizeC_lok 256 q_N 0 [k] (updB S k) w1 rfl (Nat.le_of_ble_eq_true rfl) F1 R1 (by have hu := cntB_upd hS 256 hk; have h1 : [k].length = 1 := rfl; omega)
  rw [nI_0] at e
  exact ⟨w', S', e, F', R', frQ_t f1 f'⟩
theorem startR {C : Nat → Int32} {S : Nat → Bool} {k : Nat} (hk : k < 256) (hcb : C k ≠ -1) {w : q_W} (R1' : ∀ i, i < 256 → C i ≠ -1 → w.1 33 i = b01 (S i)) (R4' : ∀ i, i < 256 → w.1 32 i = C i) (hS : S k = false) (rec34 : Int32 → q_W → Option (Unit × q_W)) : ∃ w' S' L', (q_lt (q_sI w 0 68 0) fun w1 => if q_inb (nI k) 512 then q_b (fX11_meets (w1.1 32 (q_ix (nI k))) (nI k / 16) (nI k - nI k / 16 * 16) w1) fun _ w3 => fX11_hangs_l88 rec34 (nI k) 0 w3 else none) = rec34 (nI (k + 1)) w' ∧ Fill C (C k) S k S' (fun _ => False) ∧ repR C w' S' L' ∧ frZ2 w w' ∧ w'.1 0 64 = w.1 0 64 + 1 ∧ w'.1 0 65 = if nI (cntB S' 256 - cntB S 256) ≤ w.1 0 65 then w.1 0 65 else nI (cntB S' 256 - cntB S 256) := by
  have R0 : repR C (q_sI w 0 68 0) S [] := ⟨fun i hi hc => by rw [sI_cell _ _ _ _ _ (by decide)]; exact R1' i hi hc, sI_same _ _ _ _, fun i hi => absurd hi (Nat.not_lt_zero i), fun i hi => by rw [sI_cell _ _ _ _ _ (by decide)]; exact R4' i hi⟩
  rw [q_lt_eq, if_pos (q_inb_nI (by omega) (by omega)), q_ix_nI (by omega), R0.2.2.2 k hk, show (16 : Int32) = nI 16 from rfl, pk_rem (by omega) (by decide) (by decide), pk_div (by omega) (by decide) (by decide)]
  unfold fX11_meets
  rw [in_ok, q_b_some, chk15_nI (by omega), if_neg b01_t, in_ok, q_b_some, chk15_nI (by omega), if_neg b01_t, show (16 : Int32) = nI 16 from rfl, pk_mul, nI_add, show 16 * (k / 16) + k % 16 = k by omega, q_lt_eq, if_pos (q_inb_nI hk (by omega)), q_ix_nI (by omega), R0.1 k hk hcb, hS, if_pos b01_f, q_lt_eq, if_pos (show q_inb (nI k) 512 from q_inb_nI (by omega) (by omega)), q_ix_nI (by omega), R0.2.2.2 k hk, if_pos rfl]
  obtain ⟨w1, e1, R1, f1⟩ := markR R0 hk (by decide)
  rw [e1, q_b_some]
  have F1 : Fill C (C k) S k (updB S k) (fun z => z ∈ [k]) := Fill_P (Fill_start hS hk) (fun y hy => Or.inl (List.mem_singleton.mpr hy)) (fun y hy => List.mem_singleton.mp hy)
  unfold fX11_hangs_l88
  obtain ⟨w', S', L', e, F', R', f', g1, g2⟩ := sizeR_lok hk hcb rec34 256 q_N [] [k] (updB S k) w1 rfl (Nat.le_of_ble_eq_true rfl) F1 R1 (by have hu := cntB_upd hS 256 hk; have h1 : ([] ++ [k]).length = 1 := rfl; omega)
  have f0 := frZ2_0 w 68 0 (Or.inl rfl)
  refine ⟨w', S', L', e, F', R', frZ2_t f0 (frZ2_t (frZ2_Z f1) f'), ?_, ?_⟩
  · rw [g1, f1.2.1 64 (by decide), sI_k _ _ _ _ _ (by decide)]
  · rw [g2, f1.2.1 65 (by decide), sI_k _ _ _ _ _ (by decide)]
