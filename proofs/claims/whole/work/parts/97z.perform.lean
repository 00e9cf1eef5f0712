/-! the executor: a pattern performed -/
section
variable {s n : Nat} {pm fo fr : Nat → Nat} {pg : Nat → List AI} {ws : List Int32} {cs : List Tr} {b0 D0 M0 rC rR q : Nat}
/-- what both hold of a program, opened -/
def PGO (P s n : Nat) (pm fo fr : Nat → Nat) (pg : Nat → List AI) (ws : List Int32) (cs : List Tr) (u v : q_W) : Prop := n ≤ 8 ∧ PG s pm fo fr pg n ws cs ∧ u.1 P 4 = nI n ∧ v.1 8 s = nI n ∧ u.1 P 3 = nI ws.length ∧ ws.length ≤ 1600 ∧ (∀ i, i < ws.length → u.1 (P + 1) i = ws.getD i 0) ∧ cs.length ≤ 1100 ∧ (∀ i, i < cs.length → v.1 12 (2000 * s + i) = (cs.getD i z3).1 ∧ v.1 13 (2000 * s + i) = (cs.getD i z3).2.1 ∧ v.1 14 (2000 * s + i) = (cs.getD i z3).2.2) ∧ ∀ i, i < n → u.1 (P + 2) i = nI (fo i) ∧ u.1 (P + 3) i = nI (pm i) ∧ v.1 10 (8 * s + i) = nI (pm i) ∧ v.1 11 (8 * s + i) = nI (2000 * s + fr i)
def u31 (P : Nat) (u : q_W) : q_W := q_sR (q_sR u 31 5 P) 31 6 9
theorem u31_1 (P : Nat) (u : q_W) : (u31 P u).1 = u.1 := rfl
theorem XE_of {P : Nat} {u v : q_W} (iP : isP P) (hs : s < 2) (h18 : v.1 0 18 = nI s) (h : PGO P s n pm fo fr pg ws cs u v) : XE (u31 P u, v) P s n pm fo fr ws cs (u31 P u) v := by
  obtain ⟨n8, hG, p4, v8, p3, wl, wa, cl, ca, pa⟩ := h
  refine ⟨iP, hs, ?_, ⟨?_, fun _ _ _ _ _ => rfl, rfl, fun _ _ _ => rfl, fun _ _ _ _ _ _ => rfl, rfl⟩, h18, n8, p4, p3, wl, wa, cl, ca, pa⟩
  · show (if 31 = 31 ∧ 5 = 6 then 9 else if 31 = 31 ∧ 5 = 5 then P else u.2.1 31 5) = P
    simp
  · show (if 31 = 31 ∧ 6 = 6 then 9 else if 31 = 31 ∧ 6 = 5 then P else u.2.1 31 6) = 9
    simp
/-- the class, about to begin -/
def cB (P f : Nat) (x y : Int32) (u : q_W) : q_W := q_sI (q_sI (q_sI (q_sI (q_sI (q_sI (q_sI (q_sI (u31 P u) 31 7 (nI f)) 31 8 0) 31 9 0) 31 10 0) 31 12 0) 31 13 0) 33 (8 * 0 + 0) x) 33 (8 * 0 + 1) y
/-- the reference, about to begin -/
def rB (x y : Int32) (v : q_W) : q_W := q_sI (q_sI (q_sI v 0 48 0) 23 0 x) 23 1 y
theorem perf_c {u v : q_W} {P : Nat} (iP : isP P) (hs : s < 2) (h18 : v.1 0 18 = nI s) (h : PGO P s n pm fo fr pg ws cs u v) (hq : q < n) (x y : Int32) : fX1_perform P (nI q) x y 9 u = CLQ P 9 q_N (nI 0) (cB P (fo q) x y u) := by
  have hE := XE_of iP hs h18 h
  have e1 : q_sR (q_sR u 31 5 P) 31 6 9 = u31 P u := rfl
  unfold fX1_perform fX1_perform_n54 fX1_perform_l73
  rw [if_pos (isP_c iP), if_pos (show cC 9 = 6 by decide), q_lt_eq, q_lt_eq, e1, startOf_XE hE hq, q_b_some, q_lt_eq, q_lt_eq, q_lt_eq, q_lt_eq, q_lt_eq, has_XE (XE_7 (XE_7 (XE_7 (XE_7 (XE_7 hE 7 _) 8 _) 9 _) 10 _) 12 _) hq, q_b_some, if_neg i_10, if_pos (Or.inl rfl), q_lt_eq]
  have s0 := fun w a => setV (u := w) (d := 0) (c := 0) a (by omega) (by omega) x
  have s1 := fun w a => setV (u := w) (d := 0) (c := 1) a (by omega) (by omega) y
  rw [nI_0] at s0
  rw [s0 _ (by rw [sI_k _ _ _ _ _ (by decide), sI_k _ _ _ _ _ (by decide), sI_k _ _ _ _ _ (by decide), sI_same]), q_b_some, show (1 : Int32) = nI 1 from rfl, s1 _ (by rw [sI_cell _ _ _ _ 31 (by decide), sI_k _ _ _ _ _ (by decide), sI_k _ _ _ _ _ (by decide), sI_k _ _ _ _ _ (by decide), sI_same]; rfl), q_b_some]
  rfl
theorem do_r {u v : q_W} {P : Nat} (hs : s < 2) (h18 : v.1 0 18 = nI s) (h : PGO P s n pm fo fr pg ws cs u v) (hq : q < n) (x y : Int32) : fX11_does (nI q) x y v = RLQ q_N (nI 0) (nI (2000 * s + (fr q + 0))) (rB x y v) := by
  obtain ⟨n8, hG, p4, v8, p3, wl, wa, cl, ca, pa⟩ := h
  unfold fX11_does fX11_does_l38
  rw [q_lt_eq, if_pos (show q_inb (0 : Int32) 144 by decide), q_lt_eq, if_pos (show q_inb (1 : Int32) 144 by decide), q_lt_eq, show q_ix (0 : Int32) = 0 by decide, show q_ix (1 : Int32) = 1 by decide, sI_cell _ _ _ _ 0 (by decide), sI_cell _ _ _ _ 0 (by decide), sI_k _ _ _ _ _ (by decide), h18, show (8 : Int32) = nI 8 from rfl, pk_mul, nI_add, q_lt_eq, if_pos (q_inb_nI (by omega) (by omega)), q_lt_eq, q_ix_nI (by omega), sI_cell _ _ _ _ 11 (by decide), sI_cell _ _ _ _ 11 (by decide), sI_cell _ _ _ _ 11 (by decide), (pa q hq).2.2.2]
  rfl
theorem cB_c (P f : Nat) (x y : Int32) (u : q_W) {q : Nat} (h1 : q ≠ 31) (h2 : q ≠ 33) : (cB P f x y u).1 q = (u31 P u).1 q := by
  unfold cB
  rw [sI_cell _ _ _ _ _ h2, sI_cell _ _ _ _ _ h2, sI_cell _ _ _ _ _ h1, sI_cell _ _ _ _ _ h1, sI_cell _ _ _ _ _ h1, sI_cell _ _ _ _ _ h1, sI_cell _ _ _ _ _ h1, sI_cell _ _ _ _ _ h1]
theorem cB_31 (P f : Nat) (x y : Int32) (u : q_W) (k : Nat) : (cB P f x y u).1 31 k = if k = 13 then 0 else if k = 12 then 0 else if k = 10 then 0 else if k = 9 then 0 else if k = 8 then 0 else if k = 7 then nI f else u.1 31 k := by
  unfold cB
  rw [sI_cell _ _ _ _ 31 (by decide), sI_cell _ _ _ _ 31 (by decide), sI_if, sI_if, sI_if, sI_if, sI_if, sI_if, u31_1]
theorem cB_33 (P f : Nat) (x y : Int32) (u : q_W) : (cB P f x y u).1 33 (8 * 0 + 0) = x ∧ (cB P f x y u).1 33 (8 * 0 + 1) = y := by
  unfold cB
  exact ⟨by rw [sI_k _ _ _ _ _ (by decide), sI_same], sI_same _ _ _ _⟩
theorem rB_c (x y : Int32) (v : q_W) {q : Nat} (h1 : q ≠ 0) (h2 : q ≠ 23) : (rB x y v).1 q = v.1 q := by
  unfold rB
  rw [sI_cell _ _ _ _ _ h2, sI_cell _ _ _ _ _ h2, sI_cell _ _ _ _ _ h1]
theorem rB_0 (x y : Int32) (v : q_W) {k : Nat} (h : k ≠ 48) : (rB x y v).1 0 k = v.1 0 k := by
  unfold rB
  rw [sI_cell _ _ _ _ 0 (by decide), sI_cell _ _ _ _ 0 (by decide), sI_k _ _ _ _ _ h]
theorem rB_48 (x y : Int32) (v : q_W) : (rB x y v).1 0 48 = nI 0 := by
  unfold rB
  rw [sI_cell _ _ _ _ 0 (by decide), sI_cell _ _ _ _ 0 (by decide), sI_same]; rfl
theorem rB_23 (x y : Int32) (v : q_W) : (rB x y v).1 23 0 = x ∧ (rB x y v).1 23 1 = y := by
  unfold rB
  exact ⟨by rw [sI_k _ _ _ _ _ (by decide), sI_same], sI_same _ _ _ _⟩
theorem XS_begin {u v : q_W} {P : Nat} (iP : isP P) (hs : s < 2) (h18 : v.1 0 18 = nI s) (h : PGO P s n pm fo fr pg ws cs u v) (hq : q < n) (x y : Int32) (h39 : v.1 0 39 = nI D0) (hD : D0 ≤ 2000) (hR : RWS (u31 P u, v) b0 M0 rC rR 0 u v) : XS (u31 P u, v) P s n pm fo fr pg ws cs b0 D0 M0 rC rR [] q 0 0 0 (cB P (fo q) x y u) (rB x y v) := by
  have hE := XE_of iP hs h18 h
  obtain ⟨pm2, _, hpg0, _⟩ := h.2.1 q hq
  have hpg0 : pgE pg pm q 0 = pS (pm q) := hpg0
  refine ⟨XE_keep hE (fun c a _ _ _ => cB_c _ _ _ _ _ (by omega) (by omega)) rfl (fun c a b => rB_c _ _ _ a (by omega)) ⟨fun c _ _ _ _ a => rB_0 _ _ _ a, rfl⟩, hq, Nat.zero_le _, ?_, ?_, ?_, ?_, by omega, ?_, ?_, fun c => by rw [hpg0] at c; exact absurd rfl c, ?_, ?_, ?_, RWS_keep hR (fun c a => by rw [cB_c _ _ _ _ _ (by omega) (by omega), u31_1]) (fun c a => rB_0 _ _ _ (by omega)) (fun c a => rB_c _ _ _ (by omega) (by omega)), trivial⟩
  · rw [cB_31, if_neg (by decide), if_neg (by decide), if_neg (by decide), if_neg (by decide), if_neg (by decide), if_pos rfl]; rfl
  · rw [cB_31, if_neg (by decide), if_neg (by decide), if_neg (by decide), if_pos rfl]; rfl
  · rw [cB_31, if_neg (by decide), if_neg (by decide), if_pos rfl]; rfl
  · rw [rB_0 _ _ _ (by decide), h39]; rfl
  · rw [cB_31, if_neg (by decide), if_pos rfl]
  · rw [cB_31, if_pos rfl]
  · rw [hpg0]
    exact ⟨by show pm q ≤ 8; omega, Nat.le_refl _, pm2, fun j hj => by have hj : j < pm q := hj; show j < 8; omega, fun _ _ => rfl, fun _ _ a _ => a⟩
  · rw [hpg0]
    intro j hj
    have hj : j < pm q := hj
    refine ⟨?_, fun c => absurd c (by omega)⟩
    have : j = 0 ∨ j = 1 := by omega
    rcases this with rfl | rfl
    · show (cB P (fo q) x y u).1 33 (8 * 0 + 0) = (rB x y v).1 23 0
      rw [(cB_33 _ _ _ _ _).1, (rB_23 _ _ _).1]
    · show (cB P (fo q) x y u).1 33 (8 * 0 + 1) = (rB x y v).1 23 1
      rw [(cB_33 _ _ _ _ _).2, (rB_23 _ _ _).2]
  · rw [hpg0]
    refine SKS_none rfl ?_ (rB_48 _ _ _)
    rw [cB_31, if_neg (by decide), if_neg (by decide), if_neg (by decide), if_neg (by decide), if_pos rfl]; rfl
theorem pot_0 {u v : q_W} {P : Nat} (h : PGO P s n pm fo fr pg ws cs u v) (hq : q < n) : pot pg pm [] q 0 0 ≤ 6803301 := by
  have e1 := phi_le (pm := pm) (pg := pg) q 0
  have e2 := (lookE h.2.1 hq).2
  rw [wo_len] at e2
  have e3 := h.2.2.2.2.2.1
  have e4 : phs pg pm [] = 0 := rfl
  unfold pot
  omega
/-- a pattern alone: both do alike -/
theorem perf0 {u v : q_W} {P : Nat} (iP : isP P) (hs : s < 2) (h18 : v.1 0 18 = nI s) (h : PGO P s n pm fo fr pg ws cs u v) (hq : q < n) (x y : Int32) (h39 : v.1 0 39 = 0) (hR : RWS (u31 P u, v) b0 0 rC rC 0 u v) : ∃ f u' v' D' k', fX1_perform P (nI q) x y 9 u = some (nI f, u') ∧ fX11_does (nI q) x y v = some (nI f, v') ∧ FIN (u31 P u, v) P s n pm fo fr ws cs b0 0 0 rC rC D' k' f u' v' := by
  have hX := XS_begin (D0 := 0) iP hs h18 h hq x y h39 (by omega) hR
  have hp := pot_0 h hq
  have hNb : q_N = 4000000000 := rfl
  obtain ⟨J, f, u', v', D', k', a1, a2, a3, a4, _⟩ := sim0 h.2.1 _ _ _ _ _ _ _ _ hX (Nat.le_refl _)
  refine ⟨f, u', v', D', k', ?_, ?_, a3⟩
  · rw [perf_c iP hs h18 h hq]
    obtain ⟨N, hN⟩ : ∃ N, q_N = N + 1 + J := ⟨q_N - 1 - J, by omega⟩
    rw [hN, CLQ_S J (N + 1) 0 _ u' a2 (by omega), CLQ_end a3.1, a3.2.1]
  · rw [do_r hs h18 h hq]
    obtain ⟨M, hM⟩ : ∃ M, q_N = pot pg pm [] q 0 0 + 1 + M := ⟨q_N - 1 - pot pg pm [] q 0 0, by omega⟩
    rw [hM]
    exact a4 M
/-- a pattern after others -/
theorem perfO {u v : q_W} {P : Nat} (iP : isP P) (hs : s < 2) (h18 : v.1 0 18 = nI s) (h : PGO P s n pm fo fr pg ws cs u v) (hq : q < n) (x y : Int32) (h39 : v.1 0 39 = nI D0) (hD : D0 ≤ 2000) (hrC : rC ≤ 120) (hR : RWS (u31 P u, v) b0 M0 rC rR 0 u v) : ∃ f u' D' k' g v', fX1_perform P (nI q) x y 9 u = some (nI f, u') ∧ f ≤ 4 ∧ (f = 0 → u'.1 31 10 = nI D' ∧ u'.1 9 2 = nI (b0 + k') ∧ D' ≤ 2000 ∧ k' ≤ rC) ∧ fX11_does (nI q) x y v = some (nI g, v') ∧ g ≤ 4 ∧ (g = 0 ↔ f = 0 ∧ D0 + D' ≤ 2000 ∧ M0 + k' ≤ rR) ∧ (g = 0 → FIN (u31 P u, v) P s n pm fo fr ws cs b0 D0 M0 rC rR D' k' 0 u' v') ∧ FRV (u31 P u, v) v' ∧ ∃ w, XE (u31 P u, v) P s n pm fo fr ws cs u' w := by
  have hX := XS_begin iP hs h18 h hq x y h39 hD hR
  have hp := pot_0 h hq
  have hNb : q_N = 4000000000 := rfl
  obtain ⟨J, f, u', D', k', g, v', a1, a2, a3, a4, a5, a6, a7, a8, a9, a10, a11, a12⟩ := simO h.2.1 hrC _ _ _ _ _ _ _ _ hX (Nat.le_refl _)
  refine ⟨f, u', D', k', g, v', ?_, a5, a6, ?_, a7, a9, a10, a11, a12⟩
  · rw [perf_c iP hs h18 h hq]
    obtain ⟨N, hN⟩ : ∃ N, q_N = N + 1 + J := ⟨q_N - 1 - J, by omega⟩
    rw [hN, CLQ_S J (N + 1) 0 _ u' a2 (by omega), CLQ_end a3, a4]
  · rw [do_r hs h18 h hq]
    obtain ⟨M, hM⟩ : ∃ M, q_N = pot pg pm [] q 0 0 + 1 + M := ⟨q_N - 1 - pot pg pm [] q 0 0, by omega⟩
    rw [hM]
    exact a8 M
end
