/-! the executor: comparing -/
section
variable {W0 : q_W × q_W} {P s n : Nat} {pm fo fr : Nat → Nat} {pg : Nat → List AI} {ws : List Int32} {cs : List Tr} {b0 D0 M0 rC rR : Nat} {fs : List (Nat × Nat)} {p i D k : Nat} {u v : q_W}
theorem step_pp (h1 : XE W0 P s n pm fo fr ws cs u v) {A c t : Nat} (h4 : u.1 31 7 = nI A) (hA : A < ws.length) (hw : ws.getD A 0 = nI c) (hc : 5 ≤ c ∧ c ≤ 13) (g : u.1 31 8 = nI (t + 1 + 1)) (ht : t + 1 < 64) : fX1_step u = q_b (fX1_combine (nI c) (u.1 32 t) (u.1 32 (t + 1)) (q_sI (q_sI (q_sI u 31 7 (nI (A + 1))) 31 8 (nI (t + 1))) 31 8 (nI t))) fun _ w6 => some ((), w6) := by
  have k0 : ¬ nI c = 0 := nI_ne0 (by omega) (by omega)
  have kk : ∀ d : Nat, d < 2 ^ 31 → d ≠ c → ¬ nI c = nI d := fun d hc hne => nI_ne (by omega) hc (fun e => hne e.symm)
  unfold fX1_step
  rw [nextW h1 h4 hA, q_b_some, hw, if_neg k0, if_neg (show ¬ nI c = 1 from kk 1 (by omega) (by omega)), if_neg (show ¬ nI c = 2 from kk 2 (by omega) (by omega)), if_neg (show ¬ nI c = 3 from kk 3 (by omega) (by omega)), if_neg (show ¬ nI c = 4 from kk 4 (by omega) (by omega)), if_neg (show ¬ nI c = 19 from kk 19 (by omega) (by omega)), if_neg (show ¬ nI c = 21 from kk 21 (by omega) (by omega)), if_neg (show ¬ nI c = 22 from kk 22 (by omega) (by omega))]
  unfold fX1_step_n190
  rw [if_neg (by rw [show (5 : Int32) = nI 5 from rfl, nI_ltI (by omega) (by omega)]; omega), if_neg (by rw [show (13 : Int32) = nI 13 from rfl, nI_ltI (by omega) (by omega)]; omega), pop_c (t := t + 1) (by rw [sI_k _ _ _ _ _ (by decide)]; exact g) (by omega), q_b_some, pop_c (t := t) (sI_same _ _ _ _) (by omega), q_b_some, sI_cell _ _ _ _ 32 (by decide), sI_cell _ _ _ _ 32 (by decide)]
theorem step_tw (h1 : XE W0 P s n pm fo fr ws cs u v) {A c : Nat} (h4 : u.1 31 7 = nI A) (hA : A < ws.length) (hw : ws.getD A 0 = nI c) (hc : 14 ≤ c ∧ c ≤ 20 ∧ c ≠ 19) : fX1_step u = fX1_step_n219 (nI c) (q_sI u 31 7 (nI (A + 1))) := by
  have k0 : ¬ nI c = 0 := nI_ne0 (by omega) (by omega)
  have kk : ∀ d : Nat, d < 2 ^ 31 → d ≠ c → ¬ nI c = nI d := fun d hc hne => nI_ne (by omega) hc (fun e => hne e.symm)
  unfold fX1_step
  rw [nextW h1 h4 hA, q_b_some, hw, if_neg k0, if_neg (show ¬ nI c = 1 from kk 1 (by omega) (by omega)), if_neg (show ¬ nI c = 2 from kk 2 (by omega) (by omega)), if_neg (show ¬ nI c = 3 from kk 3 (by omega) (by omega)), if_neg (show ¬ nI c = 4 from kk 4 (by omega) (by omega)), if_neg (show ¬ nI c = 19 from kk 19 (by omega) (by omega)), if_neg (show ¬ nI c = 21 from kk 21 (by omega) (by omega)), if_neg (show ¬ nI c = 22 from kk 22 (by omega) (by omega))]
  unfold fX1_step_n190
  rw [if_neg (by rw [show (5 : Int32) = nI 5 from rfl, nI_ltI (by omega) (by omega)]; omega), if_pos (by rw [show (13 : Int32) = nI 13 from rfl, nI_ltI (by omega) (by omega)]; omega)]
/-- the truth of a comparison -/
def relV (k : Nat) (x y : Int32) : Int32 := if k = 0 then (if x = y then 1 else 0) else if k = 1 then (if x = y then 0 else 1) else if k = 2 then (if y ≤ x then 0 else 1) else if y < x then 0 else 1
theorem relV_01 (k : Nat) (x y : Int32) : relV k x y = 0 ∨ relV k x y = 1 := by
  unfold relV
  by_cases k0 : k = 0
  · rw [if_pos k0]
    by_cases c : x = y
    · rw [if_pos c]; exact Or.inr rfl
    · rw [if_neg c]; exact Or.inl rfl
  · rw [if_neg k0]
    by_cases k1 : k = 1
    · rw [if_pos k1]
      by_cases c : x = y
      · rw [if_pos c]; exact Or.inl rfl
      · rw [if_neg c]; exact Or.inr rfl
    · rw [if_neg k1]
      by_cases k2 : k = 2
      · rw [if_pos k2]
        by_cases c : y ≤ x
        · rw [if_pos c]; exact Or.inl rfl
        · rw [if_neg c]; exact Or.inr rfl
      · rw [if_neg k2]
        by_cases c : y < x
        · rw [if_pos c]; exact Or.inl rfl
        · rw [if_neg c]; exact Or.inr rfl
theorem rel_c {k : Nat} (hk : k < 4) {u : q_W} {t : Nat} (h : u.1 31 8 = nI t) (ht : t < 64) (x y : Int32) : fX1_combine (nI (k + 10)) x y u = some ((), q_sI (q_sI u 32 t (relV k x y)) 31 8 (nI (t + 1))) := by
  have hp := fun z => push_c h ht z
  have : k = 0 ∨ k = 1 ∨ k = 2 ∨ k = 3 := by omega
  unfold fX1_combine
  rcases this with rfl | rfl | rfl | rfl
  · rw [if_neg (show ¬ nI (0 + 10) = 5 by decide), if_neg (show ¬ nI (0 + 10) = 6 by decide), if_neg (show ¬ nI (0 + 10) = 7 by decide), if_neg (show ¬ nI (0 + 10) = 8 by decide), if_neg (show ¬ nI (0 + 10) = 9 by decide), if_pos (show nI (0 + 10) = 10 by decide)]
    unfold fX1_combine_n99 relV
    rw [if_pos rfl]
    by_cases c : x = y
    · rw [if_pos c, if_pos c, hp, q_b_some]
    · rw [if_neg c, if_neg c, hp, q_b_some]
  · rw [if_neg (show ¬ nI (1 + 10) = 5 by decide), if_neg (show ¬ nI (1 + 10) = 6 by decide), if_neg (show ¬ nI (1 + 10) = 7 by decide), if_neg (show ¬ nI (1 + 10) = 8 by decide), if_neg (show ¬ nI (1 + 10) = 9 by decide), if_neg (show ¬ nI (1 + 10) = 10 by decide), if_pos (show nI (1 + 10) = 11 by decide)]
    unfold fX1_combine_n116 relV
    rw [if_neg (show ¬ (1 : Nat) = 0 by decide), if_pos rfl]
    by_cases c : x = y
    · rw [if_pos c, if_pos c, hp, q_b_some]
    · rw [if_neg c, if_neg c, hp, q_b_some]
  · rw [if_neg (show ¬ nI (2 + 10) = 5 by decide), if_neg (show ¬ nI (2 + 10) = 6 by decide), if_neg (show ¬ nI (2 + 10) = 7 by decide), if_neg (show ¬ nI (2 + 10) = 8 by decide), if_neg (show ¬ nI (2 + 10) = 9 by decide), if_neg (show ¬ nI (2 + 10) = 10 by decide), if_neg (show ¬ nI (2 + 10) = 11 by decide), if_pos (show nI (2 + 10) = 12 by decide)]
    unfold fX1_combine_n133 relV
    rw [if_neg (show ¬ (2 : Nat) = 0 by decide), if_neg (show ¬ (2 : Nat) = 1 by decide), if_pos rfl]
    by_cases c : y ≤ x
    · rw [if_pos c, if_pos c, hp, q_b_some]
    · rw [if_neg c, if_neg c, hp, q_b_some]
  · rw [if_neg (show ¬ nI (3 + 10) = 5 by decide), if_neg (show ¬ nI (3 + 10) = 6 by decide), if_neg (show ¬ nI (3 + 10) = 7 by decide), if_neg (show ¬ nI (3 + 10) = 8 by decide), if_neg (show ¬ nI (3 + 10) = 9 by decide), if_neg (show ¬ nI (3 + 10) = 10 by decide), if_neg (show ¬ nI (3 + 10) = 11 by decide), if_neg (show ¬ nI (3 + 10) = 12 by decide)]
    unfold fX1_combine_n150 relV
    rw [if_neg (show ¬ (3 : Nat) = 0 by decide), if_neg (show ¬ (3 : Nat) = 1 by decide), if_neg (show ¬ (3 : Nat) = 2 by decide)]
    by_cases c : y < x
    · rw [if_pos c, if_pos c, hp, q_b_some]
    · rw [if_neg c, if_neg c, hp, q_b_some]
theorem rel_r {k : Nat} (hk : k < 4) {v : q_W} (h : v.1 0 48 = 2) (rec : Int32 → Int32 → q_W → Option (Int32 × q_W)) (x4 x5 : Int32) : fX11_does_n433 rec x4 x5 (nI k) v = fX11_does_n890 rec x4 x5 (q_sI (q_sI (q_sI v 0 48 0) 25 0 (relV k (v.1 25 0) (v.1 25 1))) 0 48 1) := by
  have n : ∀ b, fX11_does_n561 rec x4 x5 b ((q_sI v 0 48 0).1 0 48) (q_sI v 0 48 0) = fX11_does_n890 rec x4 x5 (q_sI (q_sI (q_sI v 0 48 0) 25 0 b) 0 48 1) := by
    intro b
    unfold fX11_does_n561
    rw [sI_same, if_pos (show q_inb (0 : Int32) 600 by decide), q_lt_eq, q_lt_eq, sI_cell _ _ _ _ 0 (by decide), sI_same]
    rfl
  have n0 : fX11_does_n541 rec x4 x5 0 (q_sI v 0 48 0) = fX11_does_n890 rec x4 x5 (q_sI (q_sI (q_sI v 0 48 0) 25 0 0) 0 48 1) := by
    unfold fX11_does_n541
    rw [if_pos rfl, n]
  have n1 : fX11_does_n541 rec x4 x5 1 (q_sI v 0 48 0) = fX11_does_n890 rec x4 x5 (q_sI (q_sI (q_sI v 0 48 0) 25 0 1) 0 48 1) := by
    unfold fX11_does_n541
    rw [if_neg i_10, n]
  have e : (2 : Int32) - 2 = 0 := by decide
  have i0 : q_ix (0 : Int32) = 0 := by decide
  have i1 : q_ix ((0 : Int32) + 1) = 1 := by decide
  unfold fX11_does_n433 relV
  rw [h, e, q_lt_eq, q_lt_eq, sI_same, if_pos (show q_inb (0 : Int32) 600 by decide), q_lt_eq, q_lt_eq, if_pos (show q_inb ((0 : Int32) + 1) 600 by decide), q_lt_eq, i0, i1, sI_cell _ _ _ _ 25 (by decide)]
  have : k = 0 ∨ k = 1 ∨ k = 2 ∨ k = 3 := by omega
  rcases this with rfl | rfl | rfl | rfl
  · rw [if_pos (show nI 0 = 0 from rfl), if_pos rfl]
    by_cases c : v.1 25 0 = v.1 25 1
    · rw [if_pos c, if_pos c, n1]
    · rw [if_neg c, if_neg c, n0]
  · rw [if_neg (show ¬ nI 1 = 0 by decide), if_pos (show nI 1 = 1 from rfl), if_neg (show ¬ (1 : Nat) = 0 by decide), if_pos rfl]
    by_cases c : v.1 25 0 = v.1 25 1
    · rw [if_pos c, if_pos c, n0]
    · rw [if_neg c, if_neg c, n1]
  · rw [if_neg (show ¬ nI 2 = 0 by decide), if_neg (show ¬ nI 2 = 1 by decide), if_pos (show nI 2 = 2 from rfl), if_neg (show ¬ (2 : Nat) = 0 by decide), if_neg (show ¬ (2 : Nat) = 1 by decide), if_pos rfl]
    by_cases c : v.1 25 1 ≤ v.1 25 0
    · rw [if_pos c, if_pos c, n0]
    · rw [if_neg c, if_neg c, n1]
  · rw [if_neg (show ¬ nI 3 = 0 by decide), if_neg (show ¬ nI 3 = 1 by decide), if_neg (show ¬ nI 3 = 2 by decide), if_neg (show ¬ (3 : Nat) = 0 by decide), if_neg (show ¬ (3 : Nat) = 1 by decide), if_neg (show ¬ (3 : Nat) = 2 by decide)]
    by_cases c : v.1 25 1 < v.1 25 0
    · rw [if_pos c, if_pos c, n0]
    · rw [if_neg c, if_neg c, n1]
/-- the reference's branches -/
theorem ref_op (hX : XS W0 P s n pm fo fr pg ws cs b0 D0 M0 rC rR fs p i D k u v) (hG : PG s pm fo fr pg n ws cs) (hi : i < (pg p).length) {o : Nat} {x y : Int32} (hx : (itA (pg p) i).2 = (nI o, x, y)) (rec : Int32 → Int32 → q_W → Option (Int32 × q_W)) (X4 : Int32) : fX11_does_h38 rec X4 (nI (2000 * s + (fr p + i))) v = (if nI o = 0 then
    fX11_does_n160 rec X4 (nI (2000 * s + (fr p + i))) x v
  else if nI o = 1 then
    fX11_does_n184 rec X4 (nI (2000 * s + (fr p + i))) x (16 * X4) v
  else if nI o = 7 then
    fX11_does_n216 rec X4 (nI (2000 * s + (fr p + i))) v
  else if nI o = 8 then
    fX11_does_n242 rec X4 (nI (2000 * s + (fr p + i))) x v
  else if nI o = 9 then
    fX11_does_n257 rec X4 (nI (2000 * s + (fr p + i))) x y v
  else if nI o = 10 then
    fX11_does_n275 rec X4 (nI (2000 * s + (fr p + i))) x y (16 * X4) v
  else if nI o = 11 then
    fX11_does_n360 rec X4 (nI (2000 * s + (fr p + i))) x v
  else if nI o = 12 then
    fX11_does_n375 rec X4 (nI (2000 * s + (fr p + i))) x y (16 * X4) v
  else if nI o = 13 then
    fX11_does_n424 rec X4 x v
  else if nI o = 14 then
    fX11_does_n433 rec X4 (nI (2000 * s + (fr p + i))) x v
  else if nI o = 15 then
    fX11_does_n575 rec X4 (nI (2000 * s + (fr p + i))) x v
  else if nI o = 16 then
    fX11_does_n606 rec X4 (nI (2000 * s + (fr p + i))) x v
  else if nI o = 17 then
    fX11_does_n638 rec X4 (nI (2000 * s + (fr p + i))) x y v
  else if nI o = 18 then
    fX11_does_n724 rec X4 v
  else fX11_does_n746 rec X4 (nI (2000 * s + (fr p + i))) v) := by
  obtain ⟨r0, r12, r13, r14⟩ := ref_at hX hG hi
  rw [hx] at r12 r13 r14
  have r12 : v.1 12 (q_ix (nI (2000 * s + (fr p + i)))) = nI o := r12
  have r13 : v.1 13 (q_ix (nI (2000 * s + (fr p + i)))) = x := r13
  have r14 : v.1 14 (q_ix (nI (2000 * s + (fr p + i)))) = y := r14
  unfold fX11_does_h38
  rw [if_pos r0, q_lt_eq, if_pos r0, q_lt_eq, q_lt_eq, if_pos r0, q_lt_eq, r12, r13, r14]
theorem n890_r (rec : Int32 → Int32 → q_W → Option (Int32 × q_W)) (X4 : Int32) (a : Nat) (w : q_W) : fX11_does_n890 rec X4 (nI (2000 * s + (fr p + a))) w = rec X4 (nI (2000 * s + (fr p + (a + 1)))) w := by
  unfold fX11_does_n890
  rw [q_lt_eq, nI_1]
  rfl
/-- a comparison -/
theorem step_rel (hX : XS W0 P s n pm fo fr pg ws cs b0 D0 M0 rC rR fs p i D k u v) (hG : PG s pm fo fr pg n ws cs) (hi : i < (pg p).length) (hK : KRel (itA (pg p) i) (pgE pg pm p i) (pgE pg pm p (i + 1))) : OUS W0 P s n pm fo fr pg ws cs b0 D0 M0 rC rR fs p i D k u v := by
  have hX0 := hX
  obtain ⟨h1, h2, h3, h4, h5, h6, h7, h8, h9, h10, h11, h12, h13, h14, h15, h16⟩ := hX
  obtain ⟨q, hq, hx, hh, hm, ht⟩ := hK
  obtain ⟨w0, w0l⟩ := lookW hG h2 hi (k := 0) (by rw [hx]; show 0 < 1; omega)
  rw [hx] at w0
  rw [Nat.add_zero] at w0 w0l
  have hsi := wo_s hi
  rw [hx] at hsi
  have hsi : wo (pg p) (i + 1) = wo (pg p) i + 1 := hsi
  generalize hσ : pgE pg pm p i = σ at *
  obtain ⟨h, a, r⟩ := σ
  have w0 : ws.getD (fo p + wo (pg p) i) 0 = nI (q + 10) := w0
  have hh : h = 2 := hh
  have hm : a = some 8 := hm
  subst hh
  subst hm
  have ht : pgE pg pm p (i + 1) = (1, some 7, r) := ht
  obtain ⟨g1, g2, g3, g4, g5, g6⟩ := h14
  have g2 : u.1 31 8 = nI (0 + 1 + 1) := g2
  have g3 : v.1 0 48 = 2 := g3
  have g4a : u.1 32 0 = v.1 25 0 := g4 0 (show 0 < 2 by omega)
  have g4b : u.1 32 (0 + 1) = v.1 25 1 := g4 1 (show 1 < 2 by omega)
  have hstep : fX1_step u = some ((), q_sI (q_sI (q_sI (q_sI (q_sI u 31 7 (nI (fo p + wo (pg p) i + 1))) 31 8 (nI (0 + 1))) 31 8 (nI 0)) 32 0 (relV q (v.1 25 0) (v.1 25 1))) 31 8 (nI (0 + 1))) := by
    rw [step_pp h1 h4 w0l w0 (by omega) g2 (by omega), g4a, g4b, rel_c hq (sI_same _ _ _ _) (by omega), q_b_some]
  have hr : ∀ rec : Int32 → Int32 → q_W → Option (Int32 × q_W), fX11_does_h38 rec (nI fs.length) (nI (2000 * s + (fr p + i))) v = rec (nI fs.length) (nI (2000 * s + (fr p + (i + 1)))) (q_sI (q_sI (q_sI v 0 48 0) 25 0 (relV q (v.1 25 0) (v.1 25 1))) 0 48 1) := by
    intro rec
    rw [ref_op hX0 hG hi (o := 14) (x := nI q) (y := 0) (by rw [hx]; rfl), if_neg (show ¬ nI 14 = 0 by decide), if_neg (show ¬ nI 14 = 1 by decide), if_neg (show ¬ nI 14 = 7 by decide), if_neg (show ¬ nI 14 = 8 by decide), if_neg (show ¬ nI 14 = 9 by decide), if_neg (show ¬ nI 14 = 10 by decide), if_neg (show ¬ nI 14 = 11 by decide), if_neg (show ¬ nI 14 = 12 by decide), if_neg (show ¬ nI 14 = 13 by decide), if_pos (show nI 14 = 14 from rfl), rel_r hq g3, n890_r]
  refine OUS_ex hX0 hi (Nat.le_refl 1) (STC_1 h10 hstep) hr (Nat.lt_succ_self i) hi (fxC_t (fxC_7 u 7 _ (by omega)) (fxC_t (fxC_7 _ 8 _ (by omega)) (fxC_t (fxC_7 _ 8 _ (by omega)) (fxC_t (fxC_32 _ _ _) (fxC_7 _ 8 _ (by omega)))))) (fxR_t (fxR_0 v _) (fxR_t (fxR_25 _ _ _) (fxR_0 _ _))) ?_ (by rw [ht, hσ]) ?_ (fun c => by rw [hσ] at c; cases c) (by rw [hx]; show ¬ ((14 : Int32) = 8 ∨ (14 : Int32) = 11); decide) (by rw [hx]; show ¬ (14 : Int32) = 9; decide) (by omega)
  · rw [sI_k _ _ _ _ _ (by decide), sI_cell _ _ _ _ 31 (by decide), sI_k _ _ _ _ _ (by decide), sI_k _ _ _ _ _ (by decide), sI_same, hsi]
    rfl
  · rw [ht]
    have hvv : (q_sI (q_sI (q_sI v 0 48 0) 25 0 (relV q (v.1 25 0) (v.1 25 1))) 0 48 1).1 25 0 = relV q (v.1 25 0) (v.1 25 1) := by rw [sI_cell _ _ _ _ 25 (by decide), sI_same]
    refine ⟨show 1 ≤ 40 by omega, by rw [sI_same]; rfl, by rw [sI_same]; rfl, fun j hj => ?_, fun b hb e => ?_, fun _ => by rw [hvv]; exact relV_01 _ _ _⟩
    · have : j = 0 := by
        have hj : j < 1 := hj
        omega
      subst this
      rw [hvv]
      show (q_sI _ 31 8 _).1 32 (0 + 0) = _
      rw [sI_cell _ _ _ _ 32 (by decide), sI_same]
    · have e : some 7 = some b := e
      cases e
      omega
end
