/-! the executor: an expression's item -/
section
variable {W0 : q_W × q_W} {P s n : Nat} {pm fo fr : Nat → Nat} {pg : Nat → List AI} {ws : List Int32} {cs : List Tr} {b0 D0 M0 rC rR : Nat} {fs : List (Nat × Nat)} {p i D k : Nat} {u v : q_W}
theorem OUS_ex (hX : XS W0 P s n pm fo fr pg ws cs b0 D0 M0 rC rR fs p i D k u v) (hi : i < (pg p).length) {i' j : Nat} {u' v' : q_W} (hj : 1 ≤ j) (hst : STC j u u') (hr : ∀ rec : Int32 → Int32 → q_W → Option (Int32 × q_W), fX11_does_h38 rec (nI fs.length) (nI (2000 * s + (fr p + i))) v = rec (nI fs.length) (nI (2000 * s + (fr p + i'))) v') (hii : i < i') (hi' : i' ≤ (pg p).length) (a : fxC u u') (b : fxR v v') (e7 : u'.1 31 7 = nI (fo p + wo (pg p) i')) (en : (pgE pg pm p i').2.2 = (pgE pg pm p i).2.2) (hs : SKS (pgE pg pm p i') u' v') (hm : (pgE pg pm p i).2.1 = none → (pgE pg pm p i').2.1 = none) (hn : ¬ ((itA (pg p) i).2.1 = 8 ∨ (itA (pg p) i).2.1 = 11)) (hn9 : ¬ (itA (pg p) i).2.1 = 9) (hjj : wo (pg p) i + j ≤ wo (pg p) i') : OUS W0 P s n pm fo fr pg ws cs b0 D0 M0 rC rR fs p i D k u v := by
  refine ⟨j, fs, p, i', D, k, u', v', hj, hst, hr, XS_ex hX hi' a b e7 en hs hm, ?_, Nat.le_refl _, Nat.le_refl _, fun _ c => absurd c hn, fun _ c => absurd c hn9⟩
  have := phi_drop (pm := pm) hi hn hii hi' hm hjj
  unfold pot
  omega
theorem STC_1 {u u' : q_W} (h13 : u.1 31 13 = 0) (h : fX1_step u = some ((), u')) : STC 1 u u' := ⟨h13, u', h, rfl⟩
theorem exM_none {a : Option Nat} (h : exM a) : a ≠ none := by
  intro e
  rw [e] at h
  rcases h with c | c | c <;> cases c
/-- a number -/
theorem step_num (hX : XS W0 P s n pm fo fr pg ws cs b0 D0 M0 rC rR fs p i D k u v) (hG : PG s pm fo fr pg n ws cs) (hi : i < (pg p).length) {x : Int32} (hx : itA (pg p) i = ([2, x], 0, x, 0)) (hm : exM (pgE pg pm p i).2.1) (h40 : (pgE pg pm p i).1 + 1 ≤ 40) (ht : pgE pg pm p (i + 1) = ((pgE pg pm p i).1 + 1, (pgE pg pm p i).2)) : OUS W0 P s n pm fo fr pg ws cs b0 D0 M0 rC rR fs p i D k u v := by
  have hX0 := hX
  obtain ⟨h1, h2, h3, h4, h5, h6, h7, h8, h9, h10, h11, h12, h13, h14, h15, h16⟩ := hX
  obtain ⟨w0, w0l⟩ := lookW hG h2 hi (k := 0) (by rw [hx]; show 0 < 2; omega)
  obtain ⟨w1, w1l⟩ := lookW hG h2 hi (k := 1) (by rw [hx]; show 1 < 2; omega)
  rw [hx] at w0 w1
  rw [Nat.add_zero] at w0 w0l
  have w0 : ws.getD (fo p + wo (pg p) i) 0 = 2 := w0
  have w1 : ws.getD (fo p + wo (pg p) i + 1) 0 = x := w1
  obtain ⟨r0, r12, r13, r14⟩ := ref_at hX0 hG hi
  rw [hx] at r12 r13
  have hsi := wo_s hi
  rw [hx] at hsi
  have hsi : wo (pg p) (i + 1) = wo (pg p) i + 2 := hsi
  generalize hσ : pgE pg pm p i = σ at *
  obtain ⟨h, a, r⟩ := σ
  have hm : exM a := hm
  have h40 : h + 1 ≤ 40 := h40
  have h14' := h14
  obtain ⟨g1, g2, g3, g4, g5, g6⟩ := h14
  have g1 : h ≤ 40 := g1
  have g2 : u.1 31 8 = nI (ofs a + h) := g2
  have g3 : v.1 0 48 = nI h := g3
  have ol := ofs_le a
  have hstep : fX1_step u = some ((), q_sI (q_sI (q_sI (q_sI u 31 7 (nI (fo p + wo (pg p) i + 1))) 31 7 (nI (fo p + wo (pg p) i + 1 + 1))) 32 (ofs a + h) x) 31 8 (nI (ofs a + h + 1))) := by
    unfold fX1_step
    rw [nextW h1 h4 w0l, q_b_some, w0, if_neg (by decide), if_neg (by decide), if_pos rfl, nextW (XE_7 h1 7 _) (sI_same _ _ _ _) w1l, q_b_some, w1, push_c (by rw [sI_k _ _ _ _ _ (by decide), sI_k _ _ _ _ _ (by decide)]; exact g2) (by omega), q_b_some]
  have hr : ∀ rec : Int32 → Int32 → q_W → Option (Int32 × q_W), fX11_does_h38 rec (nI fs.length) (nI (2000 * s + (fr p + i))) v = rec (nI fs.length) (nI (2000 * s + (fr p + (i + 1)))) (q_sI (q_sI v 25 h x) 0 48 (nI (h + 1))) := by
    intro rec
    unfold fX11_does_h38
    rw [if_pos r0, q_lt_eq, if_pos r0, q_lt_eq, q_lt_eq, if_pos r0, q_lt_eq, r12, if_pos rfl, r13]
    unfold fX11_does_n160 fX11_does_n890
    rw [g3, q_lt_eq, if_pos (q_inb_nI (by omega) (by omega)), q_lt_eq, q_lt_eq, q_ix_nI (by omega), sI_cell _ _ _ _ 0 (by decide), g3, nI_1, q_lt_eq, nI_1]
    rfl
  refine OUS_ex hX0 hi (Nat.le_refl 1) (STC_1 h10 hstep) hr (Nat.lt_succ_self i) hi (fxC_t (fxC_7 u 7 _ (by omega)) (fxC_t (fxC_7 _ 7 _ (by omega)) (fxC_t (fxC_32 _ _ _) (fxC_7 _ 8 _ (by omega))))) (fxR_t (fxR_25 v _ _) (fxR_0 _ _)) ?_ (by rw [ht, hσ]) ?_ (fun c => absurd (by rw [hσ] at c; exact c) (exM_none hm)) (by rw [hx]; show ¬ ((0 : Int32) = 8 ∨ (0 : Int32) = 11); decide) (by rw [hx]; show ¬ (0 : Int32) = 9; decide) (by omega)
  · rw [sI_k _ _ _ _ _ (by decide), sI_cell _ _ _ _ 31 (by decide), sI_same, hsi]
    rfl
  · rw [ht]
    refine SKS_top (x := x) h14' hm (Nat.le_refl h) h40 (by rw [sI_same]; rfl) (sI_same _ _ _ _) (fun j => ?_) (fun j _ => ?_)
    · rw [sI_cell _ _ _ _ 32 (by decide), sI_if, sI_cell _ _ _ _ 32 (by decide), sI_cell _ _ _ _ 32 (by decide)]
    · rw [sI_cell _ _ _ _ 25 (by decide), sI_if]
/-- a name -/
theorem step_load (hX : XS W0 P s n pm fo fr pg ws cs b0 D0 M0 rC rR fs p i D k u v) (hG : PG s pm fo fr pg n ws cs) (hi : i < (pg p).length) {c : Nat} (hc : c < (pgE pg pm p i).2.2.1) (hx : itA (pg p) i = ([3, nI c], 1, nI ((pgE pg pm p i).2.2.2 c), 0)) (hm : exM (pgE pg pm p i).2.1) (h40 : (pgE pg pm p i).1 + 1 ≤ 40) (ht : pgE pg pm p (i + 1) = ((pgE pg pm p i).1 + 1, (pgE pg pm p i).2)) : OUS W0 P s n pm fo fr pg ws cs b0 D0 M0 rC rR fs p i D k u v := by
  have hX0 := hX
  obtain ⟨h1, h2, h3, h4, h5, h6, h7, h8, h9, h10, h11, h12, h13, h14, h15, h16⟩ := hX
  have hd : fs.length ≤ 7 := by have := FRS_len fs p h2 h16; have := h1.2.2.2.2.2.1; omega
  obtain ⟨w0, w0l⟩ := lookW hG h2 hi (k := 0) (by rw [hx]; show 0 < 2; omega)
  obtain ⟨w1, w1l⟩ := lookW hG h2 hi (k := 1) (by rw [hx]; show 1 < 2; omega)
  rw [hx] at w0 w1
  rw [Nat.add_zero] at w0 w0l
  obtain ⟨r0, r12, r13, r14⟩ := ref_at hX0 hG hi
  rw [hx] at r12 r13
  have hsi := wo_s hi
  rw [hx] at hsi
  have hsi : wo (pg p) (i + 1) = wo (pg p) i + 2 := hsi
  generalize hσ : pgE pg pm p i = σ at *
  obtain ⟨h, a, r⟩ := σ
  have w0 : ws.getD (fo p + wo (pg p) i) 0 = 3 := w0
  have w1 : ws.getD (fo p + wo (pg p) i + 1) 0 = nI c := w1
  have r12 : v.1 12 (q_ix (nI (2000 * s + (fr p + i)))) = 1 := r12
  have r13 : v.1 13 (q_ix (nI (2000 * s + (fr p + i)))) = nI (r.2 c) := r13
  have hm : exM a := hm
  have h40 : h + 1 ≤ 40 := h40
  have hc : c < r.1 := hc
  have sl8 : r.2 c < 8 := h12.2.2.2.1 c hc
  have r8 : r.1 ≤ 8 := h12.1
  have hv : u.1 33 (8 * fs.length + c) = v.1 23 (16 * fs.length + r.2 c) := (h13 c hc).1
  have h14' := h14
  obtain ⟨g1, g2, g3, g4, g5, g6⟩ := h14
  have g1 : h ≤ 40 := g1
  have g2 : u.1 31 8 = nI (ofs a + h) := g2
  have g3 : v.1 0 48 = nI h := g3
  have ol := ofs_le a
  generalize hval : v.1 23 (16 * fs.length + r.2 c) = x at *
  have hstep : fX1_step u = some ((), q_sI (q_sI (q_sI (q_sI u 31 7 (nI (fo p + wo (pg p) i + 1))) 31 7 (nI (fo p + wo (pg p) i + 1 + 1))) 32 (ofs a + h) x) 31 8 (nI (ofs a + h + 1))) := by
    have e9 : (q_sI (q_sI u 31 7 (nI (fo p + wo (pg p) i + 1))) 31 7 (nI (fo p + wo (pg p) i + 1 + 1))).1 31 9 = nI fs.length := by rw [sI_k _ _ _ _ _ (by decide), sI_k _ _ _ _ _ (by decide), h5]
    have em : nI fs.length * 8 + nI c = nI (8 * fs.length + c) := by
      rw [show (8 : Int32) = nI 8 from rfl, pk_mul, nI_add, Nat.mul_comm]
    unfold fX1_step
    rw [nextW h1 h4 w0l, q_b_some, w0, if_neg (by decide), if_neg (by decide), if_neg (by decide), if_pos rfl, nextW (XE_7 h1 7 _) (sI_same _ _ _ _) w1l, q_b_some, w1]
    unfold fX1_valueOf
    rw [e9, em, q_lt_eq, if_neg (nI_pos (by omega)), if_neg (by rw [show (64 : Int32) = nI 64 from rfl, nI_leI (by omega) (by omega)]; omega), if_pos (q_inb_nI (by omega) (by omega)), q_b_some, q_ix_nI (by omega), sI_cell _ _ _ _ 33 (by decide), sI_cell _ _ _ _ 33 (by decide), hv, push_c (by rw [sI_k _ _ _ _ _ (by decide), sI_k _ _ _ _ _ (by decide)]; exact g2) (by omega), q_b_some]
  have hr : ∀ rec : Int32 → Int32 → q_W → Option (Int32 × q_W), fX11_does_h38 rec (nI fs.length) (nI (2000 * s + (fr p + i))) v = rec (nI fs.length) (nI (2000 * s + (fr p + (i + 1)))) (q_sI (q_sI v 25 h x) 0 48 (nI (h + 1))) := by
    intro rec
    have em : (16 : Int32) * nI fs.length + nI (r.2 c) = nI (16 * fs.length + r.2 c) := by
      rw [show (16 : Int32) = nI 16 from rfl, pk_mul, nI_add]
    unfold fX11_does_h38
    rw [if_pos r0, q_lt_eq, if_pos r0, q_lt_eq, q_lt_eq, if_pos r0, q_lt_eq, r12, if_neg (by decide), if_pos rfl, r13]
    unfold fX11_does_n184 fX11_does_n890
    show (q_lt (16 * nI fs.length + nI (r.2 c)) _) = _
    rw [em, q_lt_eq, if_pos (q_inb_nI (by omega) (by omega)), g3, q_lt_eq, if_pos (q_inb_nI (by omega) (by omega)), q_lt_eq, q_lt_eq, q_ix_nI (show h < 2 ^ 31 by omega), q_ix_nI (show 16 * fs.length + r.2 c < 2 ^ 31 by omega), sI_cell _ _ _ _ 0 (by decide), g3, nI_1, q_lt_eq, nI_1, hval]
    rfl
  refine OUS_ex hX0 hi (Nat.le_refl 1) (STC_1 h10 hstep) hr (Nat.lt_succ_self i) hi (fxC_t (fxC_7 u 7 _ (by omega)) (fxC_t (fxC_7 _ 7 _ (by omega)) (fxC_t (fxC_32 _ _ _) (fxC_7 _ 8 _ (by omega))))) (fxR_t (fxR_25 v _ _) (fxR_0 _ _)) ?_ (by rw [ht, hσ]) ?_ (fun c => absurd (by rw [hσ] at c; exact c) (exM_none hm)) (by rw [hx]; show ¬ ((1 : Int32) = 8 ∨ (1 : Int32) = 11); decide) (by rw [hx]; show ¬ (1 : Int32) = 9; decide) (by omega)
  · rw [sI_k _ _ _ _ _ (by decide), sI_cell _ _ _ _ 31 (by decide), sI_same, hsi]
    rfl
  · rw [ht]
    refine SKS_top (x := x) h14' hm (Nat.le_refl h) h40 (by rw [sI_same]; rfl) (sI_same _ _ _ _) (fun j => ?_) (fun j _ => ?_)
    · rw [sI_cell _ _ _ _ 32 (by decide), sI_if, sI_cell _ _ _ _ 32 (by decide), sI_cell _ _ _ _ 32 (by decide)]
    · rw [sI_cell _ _ _ _ 25 (by decide), sI_if]
/-- a minus ahead -/
theorem step_neg (hX : XS W0 P s n pm fo fr pg ws cs b0 D0 M0 rC rR fs p i D k u v) (hG : PG s pm fo fr pg n ws cs) (hi : i < (pg p).length) (hx : itA (pg p) i = ([4], 7, 0, 0)) (hm : exM (pgE pg pm p i).2.1) (h1' : 1 ≤ (pgE pg pm p i).1) (ht : pgE pg pm p (i + 1) = pgE pg pm p i) : OUS W0 P s n pm fo fr pg ws cs b0 D0 M0 rC rR fs p i D k u v := by
  have hX0 := hX
  obtain ⟨h1, h2, h3, h4, h5, h6, h7, h8, h9, h10, h11, h12, h13, h14, h15, h16⟩ := hX
  obtain ⟨w0, w0l⟩ := lookW hG h2 hi (k := 0) (by rw [hx]; show 0 < 1; omega)
  rw [hx] at w0
  rw [Nat.add_zero] at w0 w0l
  have w0 : ws.getD (fo p + wo (pg p) i) 0 = 4 := w0
  obtain ⟨r0, r12, r13, r14⟩ := ref_at hX0 hG hi
  rw [hx] at r12
  have hsi := wo_s hi
  rw [hx] at hsi
  have hsi : wo (pg p) (i + 1) = wo (pg p) i + 1 := hsi
  generalize hσ : pgE pg pm p i = σ at *
  obtain ⟨h, a, r⟩ := σ
  have hm : exM a := hm
  have h1' : 1 ≤ h := h1'
  obtain ⟨h, rfl⟩ : ∃ x, h = x + 1 := ⟨h - 1, by omega⟩
  have h14' := h14
  obtain ⟨g1, g2, g3, g4, g5, g6⟩ := h14
  have g1 : h + 1 ≤ 40 := g1
  have g2 : u.1 31 8 = nI (ofs a + h + 1) := g2
  have g3 : v.1 0 48 = nI (h + 1) := g3
  have g4 : u.1 32 (ofs a + h) = v.1 25 h := g4 h (show h < h + 1 by omega)
  have ol := ofs_le a
  have hstep : fX1_step u = some ((), q_sI (q_sI (q_sI (q_sI u 31 7 (nI (fo p + wo (pg p) i + 1))) 31 8 (nI (ofs a + h))) 32 (ofs a + h) (0 - v.1 25 h)) 31 8 (nI (ofs a + h + 1))) := by
    unfold fX1_step
    rw [nextW h1 h4 w0l, q_b_some, w0, if_neg (by decide), if_neg (by decide), if_neg (by decide), if_neg (by decide), if_pos rfl, pop_c (t := ofs a + h) (by rw [sI_k _ _ _ _ _ (by decide)]; exact g2) (by omega), q_b_some, sI_cell _ _ _ _ 32 (by decide), g4, push_c (sI_same _ _ _ _) (by omega), q_b_some]
  have hr : ∀ rec : Int32 → Int32 → q_W → Option (Int32 × q_W), fX11_does_h38 rec (nI fs.length) (nI (2000 * s + (fr p + i))) v = rec (nI fs.length) (nI (2000 * s + (fr p + (i + 1)))) (q_sI v 25 h (0 - v.1 25 h)) := by
    intro rec
    unfold fX11_does_h38
    rw [if_pos r0, q_lt_eq, if_pos r0, q_lt_eq, q_lt_eq, if_pos r0, q_lt_eq, r12, if_neg (by decide), if_neg (by decide), if_pos rfl]
    unfold fX11_does_n216 fX11_does_n890
    rw [g3, nI_s1, q_lt_eq, if_pos (q_inb_nI (by omega) (by omega)), q_lt_eq, if_pos (q_inb_nI (by omega) (by omega)), q_lt_eq, q_lt_eq, q_ix_nI (by omega), nI_1]
    rfl
  refine OUS_ex hX0 hi (Nat.le_refl 1) (STC_1 h10 hstep) hr (Nat.lt_succ_self i) hi (fxC_t (fxC_7 u 7 _ (by omega)) (fxC_t (fxC_7 _ 8 _ (by omega)) (fxC_t (fxC_32 _ _ _) (fxC_7 _ 8 _ (by omega))))) (fxR_25 v _ _) ?_ (by rw [ht, hσ]) ?_ (fun c => absurd (by rw [hσ] at c; exact c) (exM_none hm)) (by rw [hx]; show ¬ ((7 : Int32) = 8 ∨ (7 : Int32) = 11); decide) (by rw [hx]; show ¬ (7 : Int32) = 9; decide) (by omega)
  · rw [sI_k _ _ _ _ _ (by decide), sI_cell _ _ _ _ 31 (by decide), sI_k _ _ _ _ _ (by decide), sI_same, hsi]
    rfl
  · rw [ht]
    refine SKS_top (x := 0 - v.1 25 h) h14' hm (Nat.le_succ h) g1 (by rw [sI_same]; rfl) (by rw [sI_cell _ _ _ _ 0 (by decide), g3]) (fun j => ?_) (fun j _ => ?_)
    · rw [sI_cell _ _ _ _ 32 (by decide), sI_if, sI_cell _ _ _ _ 32 (by decide), sI_cell _ _ _ _ 32 (by decide)]
    · rw [sI_if]
/-- what a sign makes of two numbers -/
def opV (o : Nat) (x y : Int32) : Int32 := if o = 2 then x + y else if o = 3 then x - y else if o = 4 then x * y else if o = 5 then x / y else x - x / y * y
theorem comb_c {o : Nat} (ho : 2 ≤ o ∧ o ≤ 6) {u : q_W} {t : Nat} (h : u.1 31 8 = nI t) (ht : t < 64) (x y : Int32) (hz : ¬ (5 ≤ o ∧ y = 0)) : fX1_combine (nI (o + 3)) x y u = some ((), q_sI (q_sI u 32 t (opV o x y)) 31 8 (nI (t + 1))) := by
  have hp := fun z => push_c h ht z
  have : o = 2 ∨ o = 3 ∨ o = 4 ∨ o = 5 ∨ o = 6 := by omega
  unfold fX1_combine
  rcases this with rfl | rfl | rfl | rfl | rfl
  · rw [if_pos (show nI (2 + 3) = 5 from rfl), hp, q_b_some]; rfl
  · rw [if_neg (show ¬ nI (3 + 3) = 5 by decide), if_pos (show nI (3 + 3) = 6 from rfl), hp, q_b_some]; rfl
  · rw [if_neg (show ¬ nI (4 + 3) = 5 by decide), if_neg (show ¬ nI (4 + 3) = 6 by decide), if_pos (show nI (4 + 3) = 7 from rfl), hp, q_b_some]; rfl
  · have hy : ¬ y = 0 := fun e => hz ⟨by omega, e⟩
    rw [if_neg (show ¬ nI (5 + 3) = 5 by decide), if_neg (show ¬ nI (5 + 3) = 6 by decide), if_neg (show ¬ nI (5 + 3) = 7 by decide), if_pos (show nI (5 + 3) = 8 from rfl)]
    unfold fX1_combine_n78 fX1_divide fX1_divide_n26
    rw [if_neg hy, if_pos (show nI (5 + 3) = 8 from rfl), if_neg hy, hp, q_b_some, q_b_some]; rfl
  · have hy : ¬ y = 0 := fun e => hz ⟨by omega, e⟩
    rw [if_neg (show ¬ nI (6 + 3) = 5 by decide), if_neg (show ¬ nI (6 + 3) = 6 by decide), if_neg (show ¬ nI (6 + 3) = 7 by decide), if_neg (show ¬ nI (6 + 3) = 8 by decide), if_pos (show nI (6 + 3) = 9 from rfl)]
    unfold fX1_combine_n78 fX1_divide fX1_divide_n26
    rw [if_neg hy, if_neg (show ¬ nI (6 + 3) = 8 by decide), if_neg hy, hp, q_b_some, q_b_some]; rfl
theorem comb_z {o : Nat} (ho : 5 ≤ o ∧ o ≤ 6) (u : q_W) (x y : Int32) (hz : y = 0) : fX1_combine (nI (o + 3)) x y u = some ((), q_sI (q_sI u 31 12 3) 31 13 1) := by
  have : o = 5 ∨ o = 6 := by omega
  unfold fX1_combine
  rcases this with rfl | rfl
  · rw [if_neg (show ¬ nI (5 + 3) = 5 by decide), if_neg (show ¬ nI (5 + 3) = 6 by decide), if_neg (show ¬ nI (5 + 3) = 7 by decide), if_pos (show nI (5 + 3) = 8 from rfl)]
    unfold fX1_combine_n78 fX1_divide fX1_breakOff
    rw [if_pos hz, q_lt_eq, q_lt_eq, q_b_some, q_b_some]
  · rw [if_neg (show ¬ nI (6 + 3) = 5 by decide), if_neg (show ¬ nI (6 + 3) = 6 by decide), if_neg (show ¬ nI (6 + 3) = 7 by decide), if_neg (show ¬ nI (6 + 3) = 8 by decide), if_pos (show nI (6 + 3) = 9 from rfl)]
    unfold fX1_combine_n78 fX1_divide fX1_breakOff
    rw [if_pos hz, q_lt_eq, q_lt_eq, q_b_some, q_b_some]
/-- a sign -/
theorem step_bin (hX : XS W0 P s n pm fo fr pg ws cs b0 D0 M0 rC rR fs p i D k u v) (hG : PG s pm fo fr pg n ws cs) (hi : i < (pg p).length) {o : Nat} (ho : 2 ≤ o ∧ o ≤ 6) (hx : itA (pg p) i = ([nI (o + 3)], nI o, 0, 0)) (hm : exM (pgE pg pm p i).2.1) (h2' : 2 ≤ (pgE pg pm p i).1) (ht : pgE pg pm p (i + 1) = ((pgE pg pm p i).1 - 1, (pgE pg pm p i).2)) : OUS W0 P s n pm fo fr pg ws cs b0 D0 M0 rC rR fs p i D k u v ∨ OUE W0 P s n pm fo fr pg ws cs b0 D0 M0 rC rR fs p i D k u v := by
  have hX0 := hX
  obtain ⟨h1, h2, h3, h4, h5, h6, h7, h8, h9, h10, h11, h12, h13, h14, h15, h16⟩ := hX
  obtain ⟨w0, w0l⟩ := lookW hG h2 hi (k := 0) (by rw [hx]; show 0 < 1; omega)
  rw [hx] at w0
  rw [Nat.add_zero] at w0 w0l
  have w0 : ws.getD (fo p + wo (pg p) i) 0 = nI (o + 3) := w0
  obtain ⟨r0, r12, r13, r14⟩ := ref_at hX0 hG hi
  rw [hx] at r12
  have r12 : v.1 12 (q_ix (nI (2000 * s + (fr p + i)))) = nI o := r12
  have hsi := wo_s hi
  rw [hx] at hsi
  have hsi : wo (pg p) (i + 1) = wo (pg p) i + 1 := hsi
  generalize hσ : pgE pg pm p i = σ at *
  obtain ⟨h, a, r⟩ := σ
  have hm : exM a := hm
  have h2' : 2 ≤ h := h2'
  obtain ⟨h, rfl⟩ : ∃ x, h = x + 2 := ⟨h - 2, by omega⟩
  have ht : pgE pg pm p (i + 1) = (h + 1, a, r) := ht
  have h14' := h14
  obtain ⟨g1, g2, g3, g4, g5, g6⟩ := h14
  have g1 : h + 2 ≤ 40 := g1
  have g2 : u.1 31 8 = nI (ofs a + h + 1 + 1) := g2
  have g3 : v.1 0 48 = nI (h + 1 + 1) := g3
  have g4a : u.1 32 (ofs a + h) = v.1 25 h := g4 h (show h < h + 2 by omega)
  have g4b : u.1 32 (ofs a + h + 1) = v.1 25 (h + 1) := g4 (h + 1) (show h + 1 < h + 2 by omega)
  have ol := ofs_le a
  -- the class: both numbers off
  have hpop : fX1_step u = q_b (fX1_combine (nI (o + 3)) (v.1 25 h) (v.1 25 (h + 1)) (q_sI (q_sI (q_sI u 31 7 (nI (fo p + wo (pg p) i + 1))) 31 8 (nI (ofs a + h + 1))) 31 8 (nI (ofs a + h)))) fun _ w6 => some ((), w6) := by
    have k0 : ¬ nI (o + 3) = 0 := nI_ne0 (by omega) (by omega)
    have kk : ∀ c : Nat, c < 2 ^ 31 → c ≠ o + 3 → ¬ nI (o + 3) = nI c := fun c hc hne => nI_ne (by omega) hc (fun e => hne e.symm)
    unfold fX1_step
    rw [nextW h1 h4 w0l, q_b_some, w0, if_neg k0, if_neg (show ¬ nI (o + 3) = 1 from kk 1 (by omega) (by omega)), if_neg (show ¬ nI (o + 3) = 2 from kk 2 (by omega) (by omega)), if_neg (show ¬ nI (o + 3) = 3 from kk 3 (by omega) (by omega)), if_neg (show ¬ nI (o + 3) = 4 from kk 4 (by omega) (by omega)), if_neg (show ¬ nI (o + 3) = 19 from kk 19 (by omega) (by omega)), if_neg (show ¬ nI (o + 3) = 21 from kk 21 (by omega) (by omega)), if_neg (show ¬ nI (o + 3) = 22 from kk 22 (by omega) (by omega))]
    unfold fX1_step_n190
    rw [if_neg (by rw [show (5 : Int32) = nI 5 from rfl, nI_ltI (by omega) (by omega)]; omega), if_neg (by rw [show (13 : Int32) = nI 13 from rfl, nI_ltI (by omega) (by omega)]; omega), pop_c (t := ofs a + h + 1) (by rw [sI_k _ _ _ _ _ (by decide)]; exact g2) (by omega), q_b_some, pop_c (t := ofs a + h) (sI_same _ _ _ _) (by omega), q_b_some, sI_cell _ _ _ _ 32 (by decide), sI_cell _ _ _ _ 32 (by decide), g4a, g4b]
  -- the reference: its two numbers
  have href : ∀ rec : Int32 → Int32 → q_W → Option (Int32 × q_W), fX11_does_h38 rec (nI fs.length) (nI (2000 * s + (fr p + i))) v = (if nI o ≤ 4 then fX11_does_n798 rec (nI fs.length) (nI (2000 * s + (fr p + i))) (v.1 25 h) (v.1 25 (h + 1)) (q_sI v 0 48 (nI (h + 1))) else if v.1 25 (h + 1) = 0 then some (3, q_sI v 0 48 (nI (h + 1))) else fX11_does_n798 rec (nI fs.length) (nI (2000 * s + (fr p + i))) (v.1 25 h) (v.1 25 (h + 1)) (q_sI v 0 48 (nI (h + 1)))) := by
    intro rec
    have kk : ∀ c : Nat, c < 2 ^ 31 → c ≠ o → ¬ nI o = nI c := fun c hc hne => nI_ne (by omega) hc (fun e => hne e.symm)
    unfold fX11_does_h38
    rw [if_pos r0, q_lt_eq, if_pos r0, q_lt_eq, q_lt_eq, if_pos r0, q_lt_eq, r12, if_neg (show ¬ nI o = 0 from kk 0 (by omega) (by omega)), if_neg (show ¬ nI o = 1 from kk 1 (by omega) (by omega)), if_neg (show ¬ nI o = 7 from kk 7 (by omega) (by omega)), if_neg (show ¬ nI o = 8 from kk 8 (by omega) (by omega)), if_neg (show ¬ nI o = 9 from kk 9 (by omega) (by omega)), if_neg (show ¬ nI o = 10 from kk 10 (by omega) (by omega)), if_neg (show ¬ nI o = 11 from kk 11 (by omega) (by omega)), if_neg (show ¬ nI o = 12 from kk 12 (by omega) (by omega)), if_neg (show ¬ nI o = 13 from kk 13 (by omega) (by omega)), if_neg (show ¬ nI o = 14 from kk 14 (by omega) (by omega)), if_neg (show ¬ nI o = 15 from kk 15 (by omega) (by omega)), if_neg (show ¬ nI o = 16 from kk 16 (by omega) (by omega)), if_neg (show ¬ nI o = 17 from kk 17 (by omega) (by omega)), if_neg (show ¬ nI o = 18 from kk 18 (by omega) (by omega))]
    unfold fX11_does_n746
    rw [g3, nI_s1, q_lt_eq, sI_same, nI_s1, q_lt_eq, if_pos (q_inb_nI (by omega) (by omega)), q_lt_eq, q_lt_eq, if_pos (q_inb_nI (by omega) (by omega)), q_lt_eq, if_pos r0, sI_cell _ _ _ _ 12 (by decide), r12, sI_cell _ _ _ _ 25 (by decide), q_ix_nI (by omega), q_ix_nI (by omega)]
  by_cases hz : 5 ≤ o ∧ v.1 25 (h + 1) = 0
  · right
    refine ⟨1, 3, q_sI (q_sI (q_sI (q_sI (q_sI u 31 7 (nI (fo p + wo (pg p) i + 1))) 31 8 (nI (ofs a + h + 1))) 31 8 (nI (ofs a + h))) 31 12 3) 31 13 1, q_sI v 0 48 (nI (h + 1)), Nat.le_refl 1, by omega, STC_1 h10 (by rw [hpop, comb_z ⟨hz.1, ho.2⟩ _ _ _ hz.2, q_b_some]), sI_same _ _ _ _, by rw [sI_k _ _ _ _ _ (by decide), sI_same]; rfl, by omega, fun rec => ?_, XE_keep h1 (fun q x _ _ _ => by rw [sI_cell _ _ _ _ _ (by omega), sI_cell _ _ _ _ _ (by omega), sI_cell _ _ _ _ _ (by omega), sI_cell _ _ _ _ _ (by omega), sI_cell _ _ _ _ _ (by omega)]) rfl (fun q x _ => sI_cell _ _ _ _ _ x) ⟨fun _ _ _ _ _ x => sI_k _ _ _ _ _ x, rfl⟩, fun c => absurd c (by omega), fun _ => ?_, fun c => absurd c (by omega), fun q x => by rw [sI_cell _ _ _ _ _ (by omega), sI_cell _ _ _ _ _ (by omega), sI_cell _ _ _ _ _ (by omega), sI_cell _ _ _ _ _ (by omega), sI_cell _ _ _ _ _ (by omega)]⟩
    · rw [href, if_neg (by rw [show (4 : Int32) = nI 4 from rfl, nI_leI (by omega) (by omega)]; omega), if_pos hz.2]
      rfl
    · rw [sI_k _ _ _ _ _ (by decide), sI_k _ _ _ _ _ (by decide), sI_k _ _ _ _ _ (by decide), sI_k _ _ _ _ _ (by decide), sI_k _ _ _ _ _ (by decide), sI_k _ _ _ _ _ (by decide)]
      exact h11 (exM_none hm)
  · left
    have hn798 : ∀ rec : Int32 → Int32 → q_W → Option (Int32 × q_W), fX11_does_n798 rec (nI fs.length) (nI (2000 * s + (fr p + i))) (v.1 25 h) (v.1 25 (h + 1)) (q_sI v 0 48 (nI (h + 1))) = rec (nI fs.length) (nI (2000 * s + (fr p + (i + 1)))) (q_sI (q_sI v 0 48 (nI (h + 1))) 25 h (opV o (v.1 25 h) (v.1 25 (h + 1)))) := by
      intro rec
      have n889 : ∀ y, fX11_does_n889 rec (nI fs.length) (nI (2000 * s + (fr p + i))) y ((q_sI v 0 48 (nI (h + 1))).1 0 48 - 1) (q_sI v 0 48 (nI (h + 1))) = rec (nI fs.length) (nI (2000 * s + (fr p + (i + 1)))) (q_sI (q_sI v 0 48 (nI (h + 1))) 25 h y) := by
        intro y
        unfold fX11_does_n889 fX11_does_n890
        rw [sI_same, nI_s1, if_pos (q_inb_nI (by omega) (by omega)), q_lt_eq, q_lt_eq, q_ix_nI (by omega), nI_1]
        rfl
      have e12 : (q_sI v 0 48 (nI (h + 1))).1 12 (q_ix (nI (2000 * s + (fr p + i)))) = nI o := by rw [sI_cell _ _ _ _ 12 (by decide), r12]
      unfold fX11_does_n798
      rw [if_pos r0, e12, if_pos r0, if_pos r0, if_pos r0]
      have : o = 2 ∨ o = 3 ∨ o = 4 ∨ o = 5 ∨ o = 6 := by omega
      rcases this with rfl | rfl | rfl | rfl | rfl
      · rw [if_pos (show nI 2 = 2 from rfl), n889]; rfl
      · rw [if_neg (show ¬ nI 3 = 2 by decide), if_pos (show nI 3 = 3 from rfl), n889]; rfl
      · rw [if_neg (show ¬ nI 4 = 2 by decide), if_neg (show ¬ nI 4 = 3 by decide), if_pos (show nI 4 = 4 from rfl), n889]; rfl
      · have hy : ¬ v.1 25 (h + 1) = 0 := fun e => hz ⟨by omega, e⟩
        rw [if_neg (show ¬ nI 5 = 2 by decide), if_neg (show ¬ nI 5 = 3 by decide), if_neg (show ¬ nI 5 = 4 by decide), if_pos (show nI 5 = 5 from rfl), if_neg hy, n889]; rfl
      · have hy : ¬ v.1 25 (h + 1) = 0 := fun e => hz ⟨by omega, e⟩
        rw [if_neg (show ¬ nI 6 = 2 by decide), if_neg (show ¬ nI 6 = 3 by decide), if_neg (show ¬ nI 6 = 4 by decide), if_neg (show ¬ nI 6 = 5 by decide), if_neg hy, n889]; rfl
    have hr : ∀ rec : Int32 → Int32 → q_W → Option (Int32 × q_W), fX11_does_h38 rec (nI fs.length) (nI (2000 * s + (fr p + i))) v = rec (nI fs.length) (nI (2000 * s + (fr p + (i + 1)))) (q_sI (q_sI v 0 48 (nI (h + 1))) 25 h (opV o (v.1 25 h) (v.1 25 (h + 1)))) := by
      intro rec
      rw [href, hn798]
      by_cases c4 : nI o ≤ 4
      · rw [if_pos c4]
      · rw [if_neg c4, if_neg (fun e => hz ⟨by rw [show (4 : Int32) = nI 4 from rfl, nI_leI (by omega) (by omega)] at c4; omega, e⟩)]
    have hstep : fX1_step u = some ((), q_sI (q_sI (q_sI (q_sI (q_sI u 31 7 (nI (fo p + wo (pg p) i + 1))) 31 8 (nI (ofs a + h + 1))) 31 8 (nI (ofs a + h))) 32 (ofs a + h) (opV o (v.1 25 h) (v.1 25 (h + 1)))) 31 8 (nI (ofs a + h + 1))) := by
      rw [hpop, comb_c ho (t := ofs a + h) (sI_same _ _ _ _) (by omega) _ _ hz, q_b_some]
    refine OUS_ex hX0 hi (Nat.le_refl 1) (STC_1 h10 hstep) hr (Nat.lt_succ_self i) hi (fxC_t (fxC_7 u 7 _ (by omega)) (fxC_t (fxC_7 _ 8 _ (by omega)) (fxC_t (fxC_7 _ 8 _ (by omega)) (fxC_t (fxC_32 _ _ _) (fxC_7 _ 8 _ (by omega)))))) (fxR_t (fxR_0 v _) (fxR_25 _ _ _)) ?_ (by rw [ht, hσ]) ?_ (fun c => absurd (by rw [hσ] at c; exact c) (exM_none hm)) (by
      rw [hx]
      show ¬ (nI o = 8 ∨ nI o = 11)
      intro c
      rcases c with c | c
      · exact nI_ne (b := 8) (by omega) (by decide) (by omega) c
      · exact nI_ne (b := 11) (by omega) (by decide) (by omega) c) (by
      rw [hx]
      exact fun c => nI_ne (b := 9) (by omega) (by decide) (by omega) c) (by omega)
    · rw [sI_k _ _ _ _ _ (by decide), sI_cell _ _ _ _ 31 (by decide), sI_k _ _ _ _ _ (by decide), sI_k _ _ _ _ _ (by decide), sI_same, hsi]
      rfl
    · rw [ht]
      refine SKS_top (x := opV o (v.1 25 h) (v.1 25 (h + 1))) h14' hm (show h ≤ h + 2 by omega) (by omega) (by rw [sI_same]; rfl) (by rw [sI_cell _ _ _ _ 0 (by decide), sI_same]) (fun j => ?_) (fun j _ => ?_)
      · rw [sI_cell _ _ _ _ 32 (by decide), sI_if, sI_cell _ _ _ _ 32 (by decide), sI_cell _ _ _ _ 32 (by decide), sI_cell _ _ _ _ 32 (by decide)]
      · rw [sI_if, sI_cell _ _ _ _ 25 (by decide)]
theorem arI_num (x : Int32) : arI ([2, x], 0, x, 0) = 0 := rfl
theorem arI_nm (x y : Int32) : arI ([3, x], 1, y, 0) = 0 := rfl
theorem step_KX (hX : XS W0 P s n pm fo fr pg ws cs b0 D0 M0 rC rR fs p i D k u v) (hG : PG s pm fo fr pg n ws cs) (hi : i < (pg p).length) (hK : KX (itA (pg p) i) (pgE pg pm p i) (pgE pg pm p (i + 1))) : OUS W0 P s n pm fo fr pg ws cs b0 D0 M0 rC rR fs p i D k u v ∨ OUE W0 P s n pm fo fr pg ws cs b0 D0 M0 rC rR fs p i D k u v := by
  obtain ⟨hm, hg, g1, g2, g3⟩ := hK
  rcases hg with ⟨x, hx⟩ | ⟨c, hc, hx⟩ | hx | ⟨o, o1, o2, hx⟩
  · rw [hx, arI_num] at g2 g3
    exact Or.inl (step_num hX hG hi hx hm g2 g3)
  · rw [hx, arI_nm] at g2 g3
    exact Or.inl (step_load hX hG hi hc hx hm g2 g3)
  · have e : arI (itA (pg p) i) = 1 := by rw [hx]; rfl
    rw [e] at g1 g3
    refine Or.inl (step_neg hX hG hi hx hm g1 ?_)
    rw [g3, show (pgE pg pm p i).1 - 1 + 1 = (pgE pg pm p i).1 by omega]
  · have e : arI (itA (pg p) i) = 2 := by
      rw [hx]
      have : o = 2 ∨ o = 3 ∨ o = 4 ∨ o = 5 ∨ o = 6 := by omega
      rcases this with rfl | rfl | rfl | rfl | rfl <;> rfl
    rw [e] at g1 g3
    refine step_bin hX hG hi ⟨o1, o2⟩ hx hm g1 ?_
    rw [g3, show (pgE pg pm p i).1 - 2 + 1 = (pgE pg pm p i).1 - 1 by omega]
end
