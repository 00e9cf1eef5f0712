/-! the executor: the end, a deed, a turn, a jump -/
section
variable {W0 : q_W × q_W} {P s n : Nat} {pm fo fr : Nat → Nat} {pg : Nat → List AI} {ws : List Int32} {cs : List Tr} {b0 D0 M0 rC rR : Nat} {fs : List (Nat × Nat)} {p i D k : Nat} {u v : q_W}
theorem RWS_keep {u' v' : q_W} (h : RWS W0 b0 M0 rC rR k u v) (a : ∀ q, q = 9 ∨ q = 10 ∨ q = 11 → u'.1 q = u.1 q) (b : ∀ q, q = 40 ∨ q = 41 → v'.1 0 q = v.1 0 q) (c : ∀ q, q = 21 ∨ q = 22 → v'.1 q = v.1 q) : RWS W0 b0 M0 rC rR k u' v' := by
  unfold RWS at *
  rw [a 9 (by decide), a 10 (by decide), a 11 (by decide), b 40 (by decide), b 41 (by decide), c 21 (by decide), c 22 (by decide)]
  exact h
theorem SKS_keep {σ : SS} {u' v' : q_W} (h : SKS σ u v) (a : u'.1 31 8 = u.1 31 8) (b : u'.1 32 = u.1 32) (c : v'.1 0 48 = v.1 0 48) (d : v'.1 25 = v.1 25) : SKS σ u' v' := by
  unfold SKS at *
  rw [a, b, c, d]
  exact h
theorem SKS_none {h : Nat} {r : Nat × (Nat → Nat)} {u' v' : q_W} (hh : h = 0) (a : u'.1 31 8 = nI 0) (b : v'.1 0 48 = nI 0) : SKS (h, none, r) u' v' := by
  subst hh
  exact ⟨Nat.zero_le _, a, b, fun j hj => absurd hj (Nat.not_lt_zero j), (fun _ _ e => by cases e), fun e => by cases e⟩
theorem SKS_8 {r : Nat × (Nat → Nat)} {u' v' : q_W} (a : u'.1 31 8 = nI 0) (b : v'.1 0 48 = nI 0) : SKS (0, some 8, r) u' v' :=
  ⟨Nat.zero_le _, a, b, fun j hj => absurd hj (Nat.not_lt_zero j), (fun b hb e => by
    have e : some 8 = some b := e
    cases e
    omega), fun e => by cases e⟩
theorem n890_o {x : Nat} (h1 : 1 ≤ x) (q : Nat) (rec : Int32 → Int32 → q_W → Option (Int32 × q_W)) (X4 : Int32) (w : q_W) : fX11_does_n890 rec X4 (nI (2000 * s + (fr q + (x - 1)))) w = rec X4 (nI (2000 * s + (fr q + x))) w := by
  rw [n890_r, show x - 1 + 1 = x by omega]
/-- the end of a page -/
theorem step_end (hX : XS W0 P s n pm fo fr pg ws cs b0 D0 M0 rC rR fs p i D k u v) (hG : PG s pm fo fr pg n ws cs) (hi : i = (pg p).length) : OUS W0 P s n pm fo fr pg ws cs b0 D0 M0 rC rR fs p i D k u v ∨ OUE W0 P s n pm fo fr pg ws cs b0 D0 M0 rC rR fs p i D k u v := by
  have hX0 := hX
  obtain ⟨h1, h2, h3, h4, h5, h6, h7, h8, h9, h10, h11, h12, h13, h14, h15, h16⟩ := hX
  have hd : fs.length ≤ 7 := by have := FRS_len fs p h2 h16; have := h1.2.2.2.2.2.1; omega
  obtain ⟨w0, wl⟩ := lookE hG h2
  rw [← hi] at w0 wl
  have hσ : pgE pg pm p i = pS (pm p) := by
    show ssA (pg p) (pS (pm p)) i = _
    rw [hi, ssA_end]
  rw [hσ] at h14
  obtain ⟨g1, g2, g3, g4, g5, g6⟩ := h14
  have g2 : u.1 31 8 = nI 0 := g2
  have g3 : v.1 0 48 = nI 0 := g3
  have href : ∀ rec : Int32 → Int32 → q_W → Option (Int32 × q_W), fX11_does_h38 rec (nI fs.length) (nI (2000 * s + (fr p + i))) v = fX11_does_n724 rec (nI fs.length) v := by
    intro rec
    obtain ⟨e1, e2, _, _, _, _, _, _, _, _, e11, e12, _⟩ := h1
    obtain ⟨l1, l2⟩ := lookR hG h2 h3
    rw [if_neg (by omega)] at l1
    obtain ⟨a, b, c⟩ := e12 _ l2
    rw [l1] at a
    have a : v.1 12 (2000 * s + (fr p + i)) = 18 := a
    have r0 : q_inb (nI (2000 * s + (fr p + i))) 4000 := q_inb_nI (by omega) (by omega)
    unfold fX11_does_h38
    rw [if_pos r0, q_lt_eq, if_pos r0, q_lt_eq, q_lt_eq, if_pos r0, q_lt_eq, q_ix_nI (by omega), a, if_neg (by decide), if_neg (by decide), if_neg (by decide), if_neg (by decide), if_neg (by decide), if_neg (by decide), if_neg (by decide), if_neg (by decide), if_neg (by decide), if_neg (by decide), if_neg (by decide), if_neg (by decide), if_neg (by decide), if_pos rfl]
  cases fs with
  | nil =>
    right
    have h5 : u.1 31 9 = 0 := h5
    have hstep : fX1_step u = some ((), q_sI (q_sI (q_sI u 31 7 (nI (fo p + wo (pg p) i + 1))) 31 9 (0 - 1)) 31 13 1) := by
      unfold fX1_step fX1_leave
      rw [nextW h1 h4 wl, q_b_some, w0, if_pos rfl, q_lt_eq, sI_same, sI_k _ _ _ _ _ (by decide), h5, if_pos (show (0 : Int32) - 1 < 0 by decide), q_lt_eq, q_b_some]
    refine ⟨1, 0, q_sI (q_sI (q_sI u 31 7 (nI (fo p + wo (pg p) i + 1))) 31 9 (0 - 1)) 31 13 1, v, Nat.le_refl 1, by omega, STC_1 h10 hstep, sI_same _ _ _ _, ?_, by omega, fun rec => ?_, ?_, fun _ => ⟨?_, ?_, h7⟩, fun c => absurd rfl c, fun _ => hi, fun q x => by rw [sI_cell _ _ _ _ _ (by omega), sI_cell _ _ _ _ _ (by omega), sI_cell _ _ _ _ _ (by omega)]⟩
    · rw [sI_k _ _ _ _ _ (by decide), sI_k _ _ _ _ _ (by decide), sI_k _ _ _ _ _ (by decide), h9]; rfl
    · rw [href]
      unfold fX11_does_n724
      rw [if_pos (show nI ([] : List (Nat × Nat)).length = 0 from rfl)]; rfl
    · exact XE_keep h1 (fun q x _ _ _ => by rw [sI_cell _ _ _ _ _ (by omega), sI_cell _ _ _ _ _ (by omega), sI_cell _ _ _ _ _ (by omega)]) rfl (fun _ _ _ => rfl) ⟨fun _ _ _ _ _ _ => rfl, rfl⟩
    · exact RWS_keep h15 (fun q x => by rw [sI_cell _ _ _ _ _ (by omega), sI_cell _ _ _ _ _ (by omega), sI_cell _ _ _ _ _ (by omega)]) (fun _ _ => rfl) (fun _ _ => rfl)
    · rw [sI_k _ _ _ _ _ (by decide), sI_k _ _ _ _ _ (by decide), sI_k _ _ _ _ _ (by decide), h6]
  | cons x fs =>
    left
    have h5 : u.1 31 9 = nI (fs.length + 1) := h5
    have hd : fs.length + 1 ≤ 7 := hd
    have hlen : (x :: fs).length = fs.length + 1 := rfl
    obtain ⟨f1, f2, f3, f4, f5, f6, f7, f8, f9, f10, f11⟩ := h16
    have hstep : fX1_step u = some ((), q_sI (q_sI (q_sI u 31 7 (nI (fo p + wo (pg p) i + 1))) 31 9 (nI fs.length)) 31 7 (u.1 35 fs.length)) := by
      unfold fX1_step fX1_leave
      rw [nextW h1 h4 wl, q_b_some, w0, if_pos rfl, q_lt_eq, sI_same, sI_k _ _ _ _ _ (by decide), h5, nI_s1, if_neg (nI_pos (by omega)), if_pos (by rw [show (8 : Int32) = nI 8 from rfl, nI_ltI (by omega) (by omega)]; omega), q_lt_eq, if_pos (q_inb_nI (by omega) (by omega)), q_lt_eq, q_ix_nI (by omega), sI_cell _ _ _ _ 35 (by decide), sI_cell _ _ _ _ 35 (by decide), q_b_some]
    have cell : ∀ q, q ≠ 31 → (q_sI (q_sI (q_sI u 31 7 (nI (fo p + wo (pg p) i + 1))) 31 9 (nI fs.length)) 31 7 (u.1 35 fs.length)).1 q = u.1 q := fun q hq => by
      rw [sI_cell _ _ _ _ _ hq, sI_cell _ _ _ _ _ hq, sI_cell _ _ _ _ _ hq]
    have fld : ∀ q, q ≠ 7 → q ≠ 9 → (q_sI (q_sI (q_sI u 31 7 (nI (fo p + wo (pg p) i + 1))) 31 9 (nI fs.length)) 31 7 (u.1 35 fs.length)).1 31 q = u.1 31 q := fun q a b => by
      rw [sI_k _ _ _ _ _ a, sI_k _ _ _ _ _ b, sI_k _ _ _ _ _ a]
    refine ⟨1, fs, x.1, x.2, D, k, q_sI (q_sI (q_sI u 31 7 (nI (fo p + wo (pg p) i + 1))) 31 9 (nI fs.length)) 31 7 (u.1 35 fs.length), v, Nat.le_refl 1, STC_1 h10 hstep, fun rec => ?_, ⟨?_, f2, f4, ?_, ?_, ?_, h7, h8, ?_, ?_, fun c => absurd f8 c, f9, ?_, ?_, ?_, ?_⟩, ?_, Nat.le_refl _, Nat.le_refl _, fun c => absurd c (by omega), fun c => absurd c (by omega)⟩
    · rw [href]
      unfold fX11_does_n724
      rw [hlen, if_neg (nI_ne0 (by omega) (by omega)), show nI (fs.length + 1) + (-1) = nI (fs.length + 1) - 1 by grind, nI_s1, q_lt_eq, if_pos (q_inb_nI (by omega) (by omega)), q_lt_eq, q_ix_nI (by omega), f6, n890_o f3]
    · exact XE_keep h1 (fun q a _ _ _ => cell q (by omega)) rfl (fun _ _ _ => rfl) ⟨fun _ _ _ _ _ _ => rfl, rfl⟩
    · rw [sI_same, f5]
    · rw [sI_k _ _ _ _ _ (by decide), sI_same]
    · rw [fld 10 (by decide) (by decide), h6]
    · rw [fld 12 (by decide) (by decide), h9]
    · rw [fld 13 (by decide) (by decide), h10]
    · exact VLS_keep f10 f9 (fun j _ => ⟨by rw [cell 33 (by decide)], by rw [cell 34 (by decide)]⟩) (fun _ _ => rfl)
    · generalize hτ : pgE pg pm x.1 x.2 = τ at *
      obtain ⟨th, ta, tr⟩ := τ
      have f8 : ta = none := f8
      subst f8
      exact SKS_none f7 (by rw [fld 8 (by decide) (by decide), g2]) g3
    · exact RWS_keep h15 (fun q a => cell q (by omega)) (fun _ _ => rfl) (fun _ _ => rfl)
    · exact FRS_keep fs x.1 f11 (fun j _ => ⟨by rw [cell 35 (by decide)], rfl⟩) (fun j _ => ⟨by rw [cell 33 (by decide)], by rw [cell 34 (by decide)]⟩) (fun _ _ => rfl)
    · have e1 : 1 ≤ phi pg pm p i := by
        unfold phi
        rw [if_neg (fun c => absurd c.1 (by omega))]
        omega
      have e2 : phs pg pm (x :: fs) = phi pg pm x.1 x.2 + phs pg pm fs := rfl
      unfold pot
      omega
def fxD (u u' : q_W) : Prop := (∀ q, q ≠ 31 → q ≠ 32 → u'.1 q = u.1 q) ∧ (∀ k, k ≠ 7 → k ≠ 8 → k ≠ 10 → k ≠ 11 → u'.1 31 k = u.1 31 k) ∧ u'.2 = u.2
def fxV (v v' : q_W) : Prop := (∀ q, q ≠ 0 → q ≠ 25 → v'.1 q = v.1 q) ∧ (∀ k, k ≠ 39 → k ≠ 44 → k ≠ 48 → v'.1 0 k = v.1 0 k) ∧ v'.2 = v.2
theorem XS_go (h : XS W0 P s n pm fo fr pg ws cs b0 D0 M0 rC rR fs p i D k u v) {i' D' : Nat} {u' v' : q_W} (hi : i' ≤ (pg p).length) (a : fxD u u') (b : fxV v v') (e7 : u'.1 31 7 = nI (fo p + wo (pg p) i')) (e10 : u'.1 31 10 = nI D') (e39 : v'.1 0 39 = nI (D0 + D')) (hD : D0 + D' ≤ 2000) (e11 : (pgE pg pm p i').2.1 ≠ none → u'.1 31 11 = v'.1 0 44) (en : (pgE pg pm p i').2.2 = (pgE pg pm p i).2.2) (hs : SKS (pgE pg pm p i') u' v') : XS W0 P s n pm fo fr pg ws cs b0 D0 M0 rC rR fs p i' D' k u' v' := by
  obtain ⟨h1, h2, h3, h4, h5, h6, h7, h8, h9, h10, h11, h12, h13, h14, h15, h16⟩ := h
  refine ⟨XE_keep h1 (fun q x _ _ _ => a.1 q (by omega) (by omega)) (by rw [a.2.2]) (fun q x y => b.1 q x (by omega)) ⟨fun q x _ _ y z => b.2.1 q x y z, b.2.2⟩, h2, hi, e7, by rw [a.2.1 9 (by decide) (by decide) (by decide) (by decide), h5], e10, e39, hD, by rw [a.2.1 12 (by decide) (by decide) (by decide) (by decide), h9], by rw [a.2.1 13 (by decide) (by decide) (by decide) (by decide), h10], e11, ?_, ?_, hs, ?_, FRS_keep fs p h16 (fun k _ => ⟨by rw [a.1 35 (by decide) (by decide)], by rw [b.1 24 (by decide) (by decide)]⟩) (fun j _ => ⟨by rw [a.1 33 (by decide) (by decide)], by rw [a.1 34 (by decide) (by decide)]⟩) (fun j _ => by rw [b.1 23 (by decide) (by decide)])⟩
  · unfold okS at *
    rw [en]; exact h12
  · unfold VLS at *
    rw [en, a.1 33 (by decide) (by decide), a.1 34 (by decide) (by decide), b.1 23 (by decide) (by decide)]
    exact h13
  · exact RWS_keep h15 (fun q x => a.1 q (by omega) (by omega)) (fun q x => b.2.1 q (by omega) (by omega) (by omega)) (fun q x => b.1 q (by omega) (by omega))
/-- after the two words of a deed -/
def dW (A D : Nat) (q : Int32) (u : q_W) : q_W := q_sI (q_sI (q_sI (q_sI u 31 7 (nI (A + 1))) 31 7 (nI (A + 1 + 1))) 31 11 q) 31 10 (nI (D + 1))
theorem deed_c (h1 : XE W0 P s n pm fo fr ws cs u v) {A c : Nat} (h4 : u.1 31 7 = nI A) (hA : A + 1 < ws.length) (hw : ws.getD A 0 = nI c) (hc : c = 1 ∨ c = 19) (h6 : u.1 31 10 = nI D) (hD : D ≤ 2000) : fX1_step u = some ((), if D + 1 ≤ 2000 then dW A D (ws.getD (A + 1) 0) u else q_sI (q_sI (dW A D (ws.getD (A + 1) 0) u) 31 12 1) 31 13 1) := by
  have h112 : fX1_step u = fX1_step_n112 (q_sI u 31 7 (nI (A + 1))) := by
    unfold fX1_step
    rw [nextW h1 h4 (by omega), q_b_some, hw]
    rcases hc with rfl | rfl
    · rw [if_neg (show ¬ nI 1 = 0 by decide), if_pos (show nI 1 = 1 from rfl)]
    · rw [if_neg (show ¬ nI 19 = 0 by decide), if_neg (show ¬ nI 19 = 1 by decide), if_neg (show ¬ nI 19 = 2 by decide), if_neg (show ¬ nI 19 = 3 by decide), if_neg (show ¬ nI 19 = 4 by decide), if_pos (show nI 19 = 19 from rfl)]
  rw [h112]
  unfold fX1_step_n112 fX1_startDeed
  rw [nextW (XE_7 h1 7 _) (sI_same _ _ _ _) hA, q_b_some, q_lt_eq, q_lt_eq, sI_same, sI_k _ _ _ _ _ (by decide), sI_k _ _ _ _ _ (by decide), sI_k _ _ _ _ _ (by decide), h6, nI_1]
  by_cases c : D + 1 ≤ 2000
  · rw [if_pos (by rw [show (2000 : Int32) = nI 2000 from rfl, nI_leI (by omega) (by omega)]; exact c), if_pos c, q_b_some]
    rfl
  · rw [if_neg (by rw [show (2000 : Int32) = nI 2000 from rfl, nI_leI (by omega) (by omega)]; exact c), if_neg c]
    unfold fX1_breakOff
    rw [q_lt_eq, q_lt_eq, q_b_some, q_b_some]
    rfl
theorem dW_fx (A D : Nat) (q : Int32) (u : q_W) : fxD u (dW A D q u) := by
  refine ⟨fun c a _ => ?_, fun c a b d e => ?_, rfl⟩
  · unfold dW
    rw [sI_cell _ _ _ _ _ a, sI_cell _ _ _ _ _ a, sI_cell _ _ _ _ _ a, sI_cell _ _ _ _ _ a]
  · unfold dW
    rw [sI_k _ _ _ _ _ d, sI_k _ _ _ _ _ e, sI_k _ _ _ _ _ a, sI_k _ _ _ _ _ a]
theorem dW_7 (A D : Nat) (q : Int32) (u : q_W) : (dW A D q u).1 31 7 = nI (A + 2) := by
  unfold dW
  rw [sI_k _ _ _ _ _ (by decide), sI_k _ _ _ _ _ (by decide), sI_same]
theorem dW_8 (A D : Nat) (q : Int32) (u : q_W) : (dW A D q u).1 31 8 = u.1 31 8 := by
  unfold dW
  rw [sI_k _ _ _ _ _ (by decide), sI_k _ _ _ _ _ (by decide), sI_k _ _ _ _ _ (by decide), sI_k _ _ _ _ _ (by decide)]
theorem dW_10 (A D : Nat) (q : Int32) (u : q_W) : (dW A D q u).1 31 10 = nI (D + 1) := sI_same _ _ _ _
theorem dW_11 (A D : Nat) (q : Int32) (u : q_W) : (dW A D q u).1 31 11 = q := by
  unfold dW
  rw [sI_k _ _ _ _ _ (by decide), sI_same]
/-- the reference's deed -/
def rW (E : Nat) (q : Int32) (v : q_W) : q_W := q_sI (q_sI v 0 44 q) 0 39 (nI (E + 1))
theorem over_r {E : Nat} (h : v.1 0 39 = nI E) (hE : E ≤ 2000) (q : Int32) : fX11_isOver (q_sI v 0 44 q) = if E = 2000 then some (1, q_sI v 0 44 q) else some (0, rW E q v) := by
  unfold fX11_isOver
  rw [sI_k _ _ _ _ _ (by decide), h]
  by_cases c : E = 2000
  · rw [if_pos c, if_pos (by rw [c]; rfl)]
  · rw [if_neg c, if_neg (by rw [show (2000 : Int32) = nI 2000 from rfl]; exact nI_ne (by omega) (by omega) c), q_lt_eq, nI_1]
    rfl
theorem rW_fx (E : Nat) (q : Int32) (v : q_W) : fxV v (rW E q v) := by
  refine ⟨fun c a _ => ?_, fun c a b d => ?_, rfl⟩
  · unfold rW
    rw [sI_cell _ _ _ _ _ a, sI_cell _ _ _ _ _ a]
  · unfold rW
    rw [sI_k _ _ _ _ _ a, sI_k _ _ _ _ _ b]
theorem rW_48 (E : Nat) (q : Int32) (v : q_W) : (rW E q v).1 0 48 = v.1 0 48 := by
  unfold rW
  rw [sI_k _ _ _ _ _ (by decide), sI_k _ _ _ _ _ (by decide)]
theorem phi_le (p i : Nat) : phi pg pm p i ≤ (wds ((pg p).map Prod.fst)).length + 1701 := by
  unfold phi
  by_cases c : i < (pg p).length ∧ ((itA (pg p) i).2.1 = 8 ∨ (itA (pg p) i).2.1 = 11)
  · rw [if_pos c]; omega
  · rw [if_neg c]
    by_cases d : (pgE pg pm p i).2.1 = none
    · rw [if_pos d]; omega
    · rw [if_neg d]; omega
/-- a deed or a turn: what both do -/
theorem step_deed0 (hX : XS W0 P s n pm fo fr pg ws cs b0 D0 M0 rC rR fs p i D k u v) (hG : PG s pm fo fr pg n ws cs) (hi : i < (pg p).length) {c : Nat} {q : Int32} {ts : List Int32} (hc : c = 1 ∨ c = 19) (hx1 : (itA (pg p) i).1 = nI c :: q :: ts) (hx2 : (itA (pg p) i).2.1 = 8 ∨ (itA (pg p) i).2.1 = 11) (hx3 : (itA (pg p) i).2.2.1 = q) (hg : ∀ u1, XE W0 P s n pm fo fr ws cs u1 v → fxD u u1 → u1.1 31 7 = nI (fo p + wo (pg p) i + 2) → u1.1 31 10 = nI (D + 1) → u1.1 31 11 = q → u1.1 31 8 = u.1 31 8 → ∃ j u', j ≤ 1 ∧ STC j u1 u' ∧ fxD u1 u' ∧ u'.1 31 7 = nI (fo p + wo (pg p) (i + 1)) ∧ u'.1 31 10 = nI (D + 1) ∧ u'.1 31 11 = q ∧ SKS (pgE pg pm p (i + 1)) u' (rW (D0 + D) q v)) (en : (pgE pg pm p (i + 1)).2.2 = (pgE pg pm p i).2.2) : OUS W0 P s n pm fo fr pg ws cs b0 D0 M0 rC rR fs p i D k u v ∨ OUE W0 P s n pm fo fr pg ws cs b0 D0 M0 rC rR fs p i D k u v ∨ OUR W0 s fr pg D0 M0 rC rR fs p i D k v := by
  have hX0 := hX
  obtain ⟨h1, h2, h3, h4, h5, h6, h7, h8, h9, h10, h11, h12, h13, h14, h15, h16⟩ := hX
  obtain ⟨w0, w0l⟩ := lookW hG h2 hi (k := 0) (by rw [hx1]; show 0 < ts.length + 1 + 1; omega)
  obtain ⟨w1, w1l⟩ := lookW hG h2 hi (k := 1) (by rw [hx1]; show 1 < ts.length + 1 + 1; omega)
  rw [hx1] at w0 w1
  rw [Nat.add_zero] at w0 w0l
  have w0 : ws.getD (fo p + wo (pg p) i) 0 = nI c := w0
  have w1 : ws.getD (fo p + wo (pg p) i + 1) 0 = q := w1
  have hstep := deed_c h1 h4 w1l w0 hc h6 (by omega)
  rw [w1] at hstep
  have href : ∀ rec : Int32 → Int32 → q_W → Option (Int32 × q_W), fX11_does_h38 rec (nI fs.length) (nI (2000 * s + (fr p + i))) v = q_b (fX11_isOver (q_sI v 0 44 q)) fun r2 w3 => if r2 = 0 then fX11_does_n890 rec (nI fs.length) (nI (2000 * s + (fr p + i))) w3 else some (1, w3) := by
    intro rec
    rcases hx2 with e | e
    · rw [ref_op hX0 hG hi (o := 8) (x := q) (y := (itA (pg p) i).2.2.2) (by rw [← hx3]; exact Prod.ext e rfl), if_neg (show ¬ nI 8 = 0 by decide), if_neg (show ¬ nI 8 = 1 by decide), if_neg (show ¬ nI 8 = 7 by decide), if_pos (show nI 8 = 8 from rfl)]
      rfl
    · rw [ref_op hX0 hG hi (o := 11) (x := q) (y := (itA (pg p) i).2.2.2) (by rw [← hx3]; exact Prod.ext e rfl), if_neg (show ¬ nI 11 = 0 by decide), if_neg (show ¬ nI 11 = 1 by decide), if_neg (show ¬ nI 11 = 7 by decide), if_neg (show ¬ nI 11 = 8 by decide), if_neg (show ¬ nI 11 = 9 by decide), if_neg (show ¬ nI 11 = 10 by decide), if_pos (show nI 11 = 11 from rfl)]
      rfl
  have ho := over_r h7 h8 q
  by_cases cE : D0 + D = 2000
  · rw [if_pos cE] at ho
    have hr : ∀ rec : Int32 → Int32 → q_W → Option (Int32 × q_W), fX11_does_h38 rec (nI fs.length) (nI (2000 * s + (fr p + i))) v = some (nI 1, q_sI v 0 44 q) := by
      intro rec
      rw [href, ho, q_b_some, if_neg i_10]
      rfl
    by_cases c0 : D0 = 0
    · right; left
      rw [if_neg (by omega)] at hstep
      have fx := dW_fx (fo p + wo (pg p) i) D q u
      refine ⟨1, 1, _, q_sI v 0 44 q, Nat.le_refl 1, by omega, STC_1 h10 hstep, sI_same _ _ _ _, ?_, by omega, hr, ?_, fun c => absurd c (by omega), fun _ => ?_, fun c => absurd c (by omega), fun q x => by rw [sI_cell _ _ _ _ _ (by omega), sI_cell _ _ _ _ _ (by omega), fx.1 q (by omega) (by omega)]⟩
      · rw [sI_k _ _ _ _ _ (by decide), sI_same]; rfl
      · exact XE_keep h1 (fun q' x _ _ _ => by rw [sI_cell _ _ _ _ _ (by omega), sI_cell _ _ _ _ _ (by omega), fx.1 q' (by omega) (by omega)]) rfl (fun q x _ => sI_cell _ _ _ _ _ x) ⟨fun _ _ _ _ x _ => sI_k _ _ _ _ _ x, rfl⟩
      · rw [sI_k _ _ _ _ _ (by decide), sI_k _ _ _ _ _ (by decide), dW_11, sI_same]
    · right; right
      exact ⟨Or.inl c0, hi, Or.inl ⟨hx2, cE⟩, 1, _, Nat.le_refl 1, by omega, (XE_keep (u' := u) (v' := q_sI v 0 44 q) h1 (fun _ _ _ _ _ => rfl) rfl (fun q x _ => sI_cell _ _ _ _ _ x) ⟨fun _ _ _ _ x _ => sI_k _ _ _ _ _ x, rfl⟩).2.2.2.1.2.2.2, hr⟩
  · left
    rw [if_neg cE] at ho
    rw [if_pos (by omega)] at hstep
    have hr : ∀ rec : Int32 → Int32 → q_W → Option (Int32 × q_W), fX11_does_h38 rec (nI fs.length) (nI (2000 * s + (fr p + i))) v = rec (nI fs.length) (nI (2000 * s + (fr p + (i + 1)))) (rW (D0 + D) q v) := by
      intro rec
      rw [href, ho, q_b_some, if_pos rfl, n890_r]
    have fx := dW_fx (fo p + wo (pg p) i) D q u
    have fv := rW_fx (D0 + D) q v
    obtain ⟨j, u', j1, st, fx2, e7, e10, e11, es⟩ := hg (dW (fo p + wo (pg p) i) D q u) (XE_keep h1 (fun q x _ _ _ => fx.1 q (by omega) (by omega)) (by rw [fx.2.2]) (fun _ _ _ => rfl) ⟨fun _ _ _ _ _ _ => rfl, rfl⟩) fx (dW_7 _ _ _ _) (dW_10 _ _ _ _) (dW_11 _ _ _ _) (dW_8 _ _ _ _)
    refine ⟨1 + j, fs, p, i + 1, D + 1, k, u', rW (D0 + D) q v, by omega, STC_t 1 u (STC_1 h10 hstep) st, hr, XS_go hX0 hi ⟨fun q a b => (fx2.1 q a b).trans (fx.1 q a b), fun q a b c d => (fx2.2.1 q a b c d).trans (fx.2.1 q a b c d), fx2.2.2.trans fx.2.2⟩ fv e7 e10 ?_ (by omega) (fun _ => ?_) en es, ?_, by omega, Nat.le_refl _, fun _ _ => Nat.le_refl _, fun _ e => ?_⟩
    · unfold rW
      rw [sI_same]
      rfl
    · unfold rW
      rw [e11, sI_k _ _ _ _ _ (by decide), sI_same]
    · have e1 := phi_le (pm := pm) (pg := pg) p (i + 1)
      have e2 := (lookE hG h2).2
      rw [wo_len] at e2
      have e3 := h1.2.2.2.2.2.2.2.2.1
      unfold pot
      omega
    · rcases hx2 with c | c <;> (rw [e] at c; exact absurd c (by decide))
theorem step_deed (hX : XS W0 P s n pm fo fr pg ws cs b0 D0 M0 rC rR fs p i D k u v) (hG : PG s pm fo fr pg n ws cs) (hi : i < (pg p).length) (hK : KDeed (itA (pg p) i) (pgE pg pm p i) (pgE pg pm p (i + 1))) : OUS W0 P s n pm fo fr pg ws cs b0 D0 M0 rC rR fs p i D k u v ∨ OUE W0 P s n pm fo fr pg ws cs b0 D0 M0 rC rR fs p i D k u v ∨ OUR W0 s fr pg D0 M0 rC rR fs p i D k v := by
  have hX0 := hX
  obtain ⟨h1, h2, h3, h4, h5, h6, h7, h8, h9, h10, h11, h12, h13, h14, h15, h16⟩ := hX
  obtain ⟨z0, zm, q, hx2, hT⟩ := hK
  have hx8 : (itA (pg p) i).2.1 = 8 := by rw [hx2]
  have hxq : (itA (pg p) i).2.2.1 = q := by rw [hx2]
  generalize hσ : pgE pg pm p i = σ at *
  obtain ⟨h, a, r⟩ := σ
  have z0 : h = 0 := z0
  have zm : a = none := zm
  subst z0
  subst zm
  obtain ⟨g1, g2, g3, g4, g5, g6⟩ := h14
  have g2 : u.1 31 8 = nI 0 := g2
  have g3 : v.1 0 48 = nI 0 := g3
  have r48 : (rW (D0 + D) q v).1 0 48 = nI 0 := by
    rw [rW_48, g3]
  rcases hT with ⟨hx1, ht⟩ | ⟨ax, hax, hx1, ht⟩
  · have hs := wo_s hi
    rw [hx1] at hs
    have hs : wo (pg p) (i + 1) = wo (pg p) i + 2 := hs
    refine step_deed0 hX0 hG hi (c := 1) (ts := []) (Or.inl rfl) hx1 (Or.inl hx8) hxq (fun u1 hE fx e7 e10 e11 e8 => ⟨0, u1, by omega, rfl, ⟨fun _ _ _ => rfl, fun _ _ _ _ _ => rfl, rfl⟩, by rw [e7, hs]; rfl, e10, e11, ?_⟩) (by rw [ht, hσ])
    rw [ht]
    exact SKS_8 (by rw [e8, g2]) r48
  · have hs := wo_s hi
    rw [hx1] at hs
    have hs : wo (pg p) (i + 1) = wo (pg p) i + 4 := hs
    obtain ⟨w2, w2l⟩ := lookW hG h2 hi (k := 2) (by rw [hx1]; show 2 < 4; omega)
    obtain ⟨w3, w3l⟩ := lookW hG h2 hi (k := 3) (by rw [hx1]; show 3 < 4; omega)
    rw [hx1] at w2 w3
    have w2 : ws.getD (fo p + wo (pg p) i + 2) 0 = 2 := w2
    have w3 : ws.getD (fo p + wo (pg p) i + 2 + 1) 0 = nI ax := w3
    have of1 : ofs (some ax) = 1 := by
      have : ax = 0 ∨ ax = 1 := by omega
      rcases this with rfl | rfl <;> rfl
    refine step_deed0 hX0 hG hi (c := 1) (ts := [2, nI ax]) (Or.inl rfl) hx1 (Or.inl hx8) hxq (fun u1 hE fx e7 e10 e11 e8 => ?_) (by rw [ht, hσ])
    have hst : fX1_step u1 = some ((), q_sI (q_sI (q_sI (q_sI u1 31 7 (nI (fo p + wo (pg p) i + 2 + 1))) 31 7 (nI (fo p + wo (pg p) i + 2 + 1 + 1))) 32 0 (nI ax)) 31 8 (nI (0 + 1))) := by
      unfold fX1_step
      rw [nextW hE e7 w2l, q_b_some, w2, if_neg (by decide), if_neg (by decide), if_pos rfl, nextW (XE_7 hE 7 _) (sI_same _ _ _ _) w3l, q_b_some, w3, push_c (t := 0) (by rw [sI_k _ _ _ _ _ (by decide), sI_k _ _ _ _ _ (by decide), e8, g2]) (by omega), q_b_some]
    refine ⟨1, _, Nat.le_refl 1, STC_1 (by rw [fx.2.1 13 (by decide) (by decide) (by decide) (by decide), h10]) hst, ⟨fun q a b => ?_, fun q a b c d => ?_, rfl⟩, ?_, ?_, ?_, ?_⟩
    · rw [sI_cell _ _ _ _ _ a, sI_cell _ _ _ _ _ b, sI_cell _ _ _ _ _ a, sI_cell _ _ _ _ _ a]
    · rw [sI_k _ _ _ _ _ b, sI_cell _ _ _ _ 31 (by decide), sI_k _ _ _ _ _ a, sI_k _ _ _ _ _ a]
    · rw [sI_k _ _ _ _ _ (by decide), sI_cell _ _ _ _ 31 (by decide), sI_same, hs]
      rfl
    · rw [sI_k _ _ _ _ _ (by decide), sI_cell _ _ _ _ 31 (by decide), sI_k _ _ _ _ _ (by decide), sI_k _ _ _ _ _ (by decide), e10]
    · rw [sI_k _ _ _ _ _ (by decide), sI_cell _ _ _ _ 31 (by decide), sI_k _ _ _ _ _ (by decide), sI_k _ _ _ _ _ (by decide), e11]
    · rw [ht]
      refine ⟨Nat.zero_le _, ?_, r48, fun j hj => absurd hj (Nat.not_lt_zero j), fun b hb e => ?_, fun e => ?_⟩
      · show (q_sI _ 31 8 _).1 31 8 = nI (ofs (some ax) + 0)
        rw [of1, sI_same]
      · have e : some ax = some b := e
        cases e
        rw [sI_cell _ _ _ _ 32 (by decide), sI_same]
      · have e : some ax = some 7 := e
        cases e
        omega
theorem step_turn (hX : XS W0 P s n pm fo fr pg ws cs b0 D0 M0 rC rR fs p i D k u v) (hG : PG s pm fo fr pg n ws cs) (hi : i < (pg p).length) (hK : KTurn (itA (pg p) i) (pgE pg pm p i) (pgE pg pm p (i + 1))) : OUS W0 P s n pm fo fr pg ws cs b0 D0 M0 rC rR fs p i D k u v ∨ OUE W0 P s n pm fo fr pg ws cs b0 D0 M0 rC rR fs p i D k u v ∨ OUR W0 s fr pg D0 M0 rC rR fs p i D k v := by
  have hX0 := hX
  obtain ⟨h1, h2, h3, h4, h5, h6, h7, h8, h9, h10, h11, h12, h13, h14, h15, h16⟩ := hX
  obtain ⟨z0, zm, ht, q, hx⟩ := hK
  generalize hσ : pgE pg pm p i = σ at *
  obtain ⟨h, a, r⟩ := σ
  have z0 : h = 0 := z0
  have zm : a = none := zm
  subst z0
  subst zm
  obtain ⟨g1, g2, g3, g4, g5, g6⟩ := h14
  have g2 : u.1 31 8 = nI 0 := g2
  have g3 : v.1 0 48 = nI 0 := g3
  have hs := wo_s hi
  rw [hx] at hs
  have hs : wo (pg p) (i + 1) = wo (pg p) i + 2 := hs
  refine step_deed0 hX0 hG hi (c := 19) (q := q) (ts := []) (Or.inr rfl) (by rw [hx]; rfl) (Or.inr (by rw [hx])) (by rw [hx]) (fun u1 hE fx e7 e10 e11 e8 => ⟨0, u1, by omega, rfl, ⟨fun _ _ _ => rfl, fun _ _ _ _ _ => rfl, rfl⟩, by rw [e7, hs]; rfl, e10, e11, ?_⟩) (by rw [ht, hσ])
  rw [ht]
  exact SKS_none rfl (by rw [e8, g2]) (by rw [rW_48, g3])
/-- a jump -/
theorem step_jmp (hX : XS W0 P s n pm fo fr pg ws cs b0 D0 M0 rC rR fs p i D k u v) (hG : PG s pm fo fr pg n ws cs) (hi : i < (pg p).length) (hK : KJmp (pg p) (pS (pm p)) (fo p) (fr p) s i (itA (pg p) i) (pgE pg pm p i)) : OUS W0 P s n pm fo fr pg ws cs b0 D0 M0 rC rR fs p i D k u v := by
  have hX0 := hX
  obtain ⟨h1, h2, h3, h4, h5, h6, h7, h8, h9, h10, h11, h12, h13, h14, h15, h16⟩ := hX
  obtain ⟨z0, zm, j, t, c1, c2, hx, c3⟩ := hK
  obtain ⟨w0, w1, wl, hs⟩ := tw2 hG h2 hi (a := 17) (b := tgC (pg p) (fo p) j) (by rw [hx])
  have c3 : pgE pg pm p j = pgE pg pm p i := c3
  have hstep : fX1_step u = some ((), q_sI (q_sI (q_sI u 31 7 (nI (fo p + wo (pg p) i + 1))) 31 7 (nI (fo p + wo (pg p) i + 1 + 1))) 31 7 (tgC (pg p) (fo p) j)) := by
    rw [step_tw h1 h4 (by omega) (c := 17) w0 (by omega)]
    unfold fX1_step_n219 fX1_turn
    rw [nextW (XE_7 h1 7 _) (sI_same _ _ _ _) wl, q_b_some, w1, if_neg (show ¬ nI 17 = 14 by decide), if_neg (show ¬ nI 17 = 15 by decide), if_neg (show ¬ nI 17 = 16 by decide), if_pos (show nI 17 = 17 from rfl), q_lt_eq, q_b_some]
  have hw := wo_mono (W := pg p) (i := i + 1) (j := j) (by omega)
  refine OUS_ex hX0 hi (Nat.le_refl 1) (STC_1 h10 hstep) (i' := j) (v' := v) (fun rec => ?_) c1 c2 (fxC_t (fxC_7 u 7 _ (by omega)) (fxC_t (fxC_7 _ 7 _ (by omega)) (fxC_7 _ 7 _ (by omega)))) (fxR_r v) (sI_same _ _ _ _) (by rw [c3]) ?_ (fun c => by rw [c3]; exact c) (by rw [hx]; show ¬ ((13 : Int32) = 8 ∨ (13 : Int32) = 11); decide) (by rw [hx]; show ¬ (13 : Int32) = 9; decide) (by omega)
  · rw [ref_op hX0 hG hi (o := 13) (x := tgR s (fr p) j) (y := t) (by rw [hx]; rfl), if_neg (show ¬ nI 13 = 0 by decide), if_neg (show ¬ nI 13 = 1 by decide), if_neg (show ¬ nI 13 = 7 by decide), if_neg (show ¬ nI 13 = 8 by decide), if_neg (show ¬ nI 13 = 9 by decide), if_neg (show ¬ nI 13 = 10 by decide), if_neg (show ¬ nI 13 = 11 by decide), if_neg (show ¬ nI 13 = 12 by decide), if_pos (show nI 13 = 13 from rfl)]
    unfold fX11_does_n424 fX11_does_n890
    rw [q_lt_eq, q_lt_eq, show tgR s (fr p) j - 1 + 1 = tgR s (fr p) j by grind]
    rfl
  · rw [c3]
    exact SKS_keep h14 (by rw [sI_k _ _ _ _ _ (by decide), sI_k _ _ _ _ _ (by decide), sI_k _ _ _ _ _ (by decide)]) (by rw [sI_cell _ _ _ _ _ (by decide), sI_cell _ _ _ _ _ (by decide), sI_cell _ _ _ _ _ (by decide)]) rfl rfl
end
