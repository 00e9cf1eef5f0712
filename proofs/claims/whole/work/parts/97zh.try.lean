/-! the search: one pattern tried by both -/
/-- what the search leaves alone -/
def frZc (u u' : q_W) : Prop := (∀ c, ¬ (9 ≤ c ∧ c ≤ 13) → ¬ (31 ≤ c ∧ c ≤ 41) → u'.1 c = u.1 c) ∧ (∀ k, k ≠ 10 → k ≠ 11 → u'.1 37 k = u.1 37 k) ∧ (∀ c k, c ≠ 31 → ¬ (c = 12 ∧ k = 1) → u'.2.1 c k = u.2.1 c k) ∧ u'.2.2 = u.2.2
def frV (v v' : q_W) : Prop := (∀ c, ¬ (c = 0 ∨ (21 ≤ c ∧ c ≤ 26) ∨ c = 29 ∨ c = 30 ∨ c = 32 ∨ c = 36) → v'.1 c = v.1 c) ∧ (∀ k, ¬ (k = 39 ∨ k = 40 ∨ k = 41 ∨ k = 44 ∨ k = 48 ∨ k = 55 ∨ k = 61 ∨ k = 62 ∨ k = 69) → v'.1 0 k = v.1 0 k) ∧ v'.2 = v.2 ∧ ∀ i, i < 256 → v'.1 32 i = v.1 32 i
theorem frZc_r (u : q_W) : frZc u u := ⟨fun _ _ _ => rfl, fun _ _ _ => rfl, fun _ _ _ _ => rfl, rfl⟩
theorem frV_r (v : q_W) : frV v v := ⟨fun _ _ => rfl, fun _ _ => rfl, rfl, fun _ _ => rfl⟩
theorem frZc_t {a b c : q_W} (h : frZc a b) (h' : frZc b c) : frZc a c := ⟨fun q x y => (h'.1 q x y).trans (h.1 q x y), fun k x y => (h'.2.1 k x y).trans (h.2.1 k x y), fun q k x y => (h'.2.2.1 q k x y).trans (h.2.2.1 q k x y), h'.2.2.2.trans h.2.2.2⟩
theorem frV_t {a b c : q_W} (h : frV a b) (h' : frV b c) : frV a c := ⟨fun q x => (h'.1 q x).trans (h.1 q x), fun k x => (h'.2.1 k x).trans (h.2.1 k x), h'.2.2.1.trans h.2.2.1, fun i x => (h'.2.2.2 i x).trans (h.2.2.2 i x)⟩
theorem frZc_I {u : q_W} {q k : Nat} {x : Int32} (h : (9 ≤ q ∧ q ≤ 13) ∨ (31 ≤ q ∧ q ≤ 41 ∧ (q = 37 → k = 10 ∨ k = 11))) : frZc u (q_sI u q k x) := by
  refine ⟨fun c a b => sI_cell _ _ _ _ _ (by omega), fun j a b => ?_, fun _ _ _ _ => rfl, rfl⟩
  by_cases e : q = 37
  · subst e
    exact sI_k _ _ _ _ _ (by omega)
  · rw [sI_cell _ _ _ _ 37 (by omega)]
theorem frV_I {v : q_W} {k : Nat} {x : Int32} (h : k = 39 ∨ k = 40 ∨ k = 41 ∨ k = 44 ∨ k = 48 ∨ k = 55 ∨ k = 61 ∨ k = 62 ∨ k = 69) : frV v (q_sI v 0 k x) := ⟨fun c a => sI_cell _ _ _ _ _ (by omega), fun j a => sI_k _ _ _ _ _ (by omega), rfl, fun i _ => by rw [sI_cell _ _ _ _ 32 (by decide)]⟩
section
variable {s n t sh : Nat} {pm fo fr : Nat → Nat} {pg : Nat → List AI} {ws : List Int32} {cs : List Tr} {P : Nat}
theorem PGO_keep {u v u' v' : q_W} (h : PGO P s n pm fo fr pg ws cs u v) (a : ∀ q, P ≤ q → q ≤ P + 3 → u'.1 q = u.1 q) (b : ∀ q, 8 ≤ q → q ≤ 14 → v'.1 q = v.1 q) : PGO P s n pm fo fr pg ws cs u' v' := by
  obtain ⟨n8, hG, q4, v8, q3, wl, wa, cl, ca, pa⟩ := h
  refine ⟨n8, hG, by rw [a P (by omega) (by omega), q4], by rw [b 8 (by decide) (by decide), v8], by rw [a P (by omega) (by omega), q3], wl, fun i hi => by rw [a (P + 1) (by omega) (by omega), wa i hi], cl, fun i hi => ?_, fun i hi => ?_⟩
  · rw [b 12 (by decide) (by decide), b 13 (by decide) (by decide), b 14 (by decide) (by decide)]
    exact ca i hi
  · rw [a (P + 2) (by omega) (by omega), a (P + 3) (by omega) (by omega), b 10 (by decide) (by decide), b 11 (by decide) (by decide)]
    exact pa i hi
/-- what the search rests on -/
def SB (P s n t sh : Nat) (pm fo fr : Nat → Nat) (pg : Nat → List AI) (ws : List Int32) (cs : List Tr) (u v : q_W) : Prop := isP P ∧ s < 2 ∧ v.1 0 18 = nI s ∧ PGO P s n pm fo fr pg ws cs u v ∧ u.1 14 6 = nI sh ∧ v.1 0 60 = nI sh ∧ v.1 0 56 = nI t ∧ t ≤ 9 ∧ ∀ i, i < 256 → u.1 15 i = v.1 32 i
theorem SB_keep {u v u' v' : q_W} (h : SB P s n t sh pm fo fr pg ws cs u v) (a : frZc u u') (b : frV v v') : SB P s n t sh pm fo fr pg ws cs u' v' := by
  obtain ⟨h1, h2, h3, h4, h5, h6, h7, h8, h9⟩ := h
  have hP : 43 ≤ P := by rcases h1 with e | e <;> omega
  exact ⟨h1, h2, by rw [b.2.1 18 (by decide), h3], PGO_keep h4 (fun q x y => a.1 q (by omega) (by omega)) (fun q x y => b.1 q (by omega)), by rw [a.1 14 (by decide) (by decide), h5], by rw [b.2.1 60 (by decide), h6], by rw [b.2.1 56 (by decide), h7], h8, fun i hi => by rw [a.1 15 (by decide) (by decide), b.2.2.2 i hi, h9 i hi]⟩
theorem needs_SB {u v : q_W} (h : PGO P s n pm fo fr pg ws cs u v) (iP : isP P) {p : Nat} (hp : p < n) : fX4_needs P (nI p) u = some (nI (pm p), u) ∧ fX4_has P (nI p) u = some (1, u) ∧ pm p ≤ 2 := by
  obtain ⟨n8, hG, q4, v8, q3, wl, wa, cl, ca, pa⟩ := h
  have hh : fX4_has P (nI p) u = some (1, u) := by
    unfold fX4_has
    rw [if_pos (isP_c iP), if_neg (nI_pos (by omega)), q4, if_neg (by rw [nI_leI (by omega) (by omega)]; omega), if_neg (by rw [show (8 : Int32) = nI 8 from rfl, nI_leI (by omega) (by omega)]; omega)]
  refine ⟨?_, hh, (hG p hp).1⟩
  unfold fX4_needs
  rw [if_pos (isP_c iP), hh, q_b_some, if_neg i_10, if_pos (q_inb_nI (by omega) (by omega)), q_ix_nI (by omega), show fC P 2 = P + 3 by rcases iP with rfl | rfl <;> rfl, (pa p hp).2.1]
theorem size_SB {u v : q_W} (h : PGO P s n pm fo fr pg ws cs u v) (iP : isP P) : fX4_size P u = some (nI n, u) := by
  unfold fX4_size
  rw [if_pos (isP_c iP), h.2.2.1]
/-- a run leaves alone what the search leaves alone -/
theorem frZc_XE {u v u' v' : q_W} (h : XE (u31 P u, v) P s n pm fo fr ws cs u' v') : frZc u u' := by
  obtain ⟨_, _, _, ⟨_, fu, fu2, _⟩, _⟩ := h
  refine ⟨fun c a b => ?_, fun k _ _ => ?_, fun c k a _ => ?_, ?_⟩
  · rw [fu c (by omega) (by omega) (by omega) (by omega)]; rfl
  · rw [fu 37 (by decide) (by decide) (by decide) (by decide)]; rfl
  · rw [fu2]
    show (if c = 31 ∧ k = 6 then 9 else if c = 31 ∧ k = 5 then P else u.2.1 c k) = _
    rw [if_neg (fun x => a x.1), if_neg (fun x => a x.1)]
  · rw [fu2]; rfl
theorem frV_FR {u v v' : q_W} (h : FRV (u31 P u, v) v') : frV v v' := by
  obtain ⟨a, b, c⟩ := h
  refine ⟨fun q x => a q (by omega) (by omega), fun k x => b k (by omega) (by omega) (by omega) (by omega) (by omega), c, fun i _ => by rw [a 32 (by decide) (by decide)]⟩
theorem clear60 (u : q_W) : fX6_clear 9 60 u = some ((), q_sI (q_sI u 9 2 0) 9 3 60) := by
  unfold fX6_clear fX6_allow
  rw [if_pos (by decide), q_lt_eq, sI_same, show q_imin ((0 : Int32) + q_imax 60 0) 480 = 60 by decide, if_pos (by decide), q_lt_eq, q_b_some]
theorem begins60 (v : q_W) : fX11_begins 60 v = some ((), q_sI (q_sI (q_sI v 0 39 0) 0 40 0) 0 41 60) := by
  unfold fX11_begins
  rw [q_lt_eq, q_lt_eq, q_lt_eq]
/-- one pattern, done by both from the start -/
theorem try_both {u v : q_W} (h : SB P s n t sh pm fo fr pg ws cs u v) {p : Nat} (hp : p < n) (x y : Int32) : ∃ f u3 v3 K, fX1_perform P (nI p) x y 9 (q_sI (q_sI u 9 2 0) 9 3 60) = some (nI f, u3) ∧ fX11_does (nI p) x y (q_sI (q_sI (q_sI v 0 39 0) 0 40 0) 0 41 60) = some (nI f, v3) ∧ f ≤ 4 ∧ frZc u u3 ∧ frV v v3 ∧ u3.1 37 = u.1 37 ∧ v3.1 0 69 = v.1 0 69 ∧ (f = 0 → K ≤ 60 ∧ RWE K u3 v3) := by
  have f1 : frZc u (q_sI (q_sI u 9 2 0) 9 3 60) := frZc_t (frZc_I (Or.inl (by decide))) (frZc_I (Or.inl (by decide)))
  have f2 : frV v (q_sI (q_sI (q_sI v 0 39 0) 0 40 0) 0 41 60) := frV_t (frV_t (frV_I (by decide)) (frV_I (by decide))) (frV_I (by decide))
  obtain ⟨h1, h2, h3, h4, _⟩ := SB_keep h f1 f2
  have u37 : (q_sI (q_sI u 9 2 0) 9 3 60).1 37 = u.1 37 := by rw [sI_cell _ _ _ _ 37 (by decide), sI_cell _ _ _ _ 37 (by decide)]
  have v69 : (q_sI (q_sI (q_sI v 0 39 0) 0 40 0) 0 41 60).1 0 69 = v.1 0 69 := by rw [sI_k _ _ _ _ _ (by decide), sI_k _ _ _ _ _ (by decide), sI_k _ _ _ _ _ (by decide)]
  have u92 : (q_sI (q_sI u 9 2 0) 9 3 60).1 9 2 = nI 0 := by rw [sI_k _ _ _ _ _ (by decide), sI_same]; rfl
  have u93 : (q_sI (q_sI u 9 2 0) 9 3 60).1 9 3 = nI 60 := sI_same _ _ _ _
  have v39 : (q_sI (q_sI (q_sI v 0 39 0) 0 40 0) 0 41 60).1 0 39 = 0 := by rw [sI_k _ _ _ _ _ (by decide), sI_k _ _ _ _ _ (by decide), sI_same]
  have v40 : (q_sI (q_sI (q_sI v 0 39 0) 0 40 0) 0 41 60).1 0 40 = nI 0 := by rw [sI_k _ _ _ _ _ (by decide), sI_same]; rfl
  have v41 : (q_sI (q_sI (q_sI v 0 39 0) 0 40 0) 0 41 60).1 0 41 = nI 60 := sI_same _ _ _ _
  generalize q_sI (q_sI u 9 2 0) 9 3 60 = u2 at *
  generalize q_sI (q_sI (q_sI v 0 39 0) 0 40 0) 0 41 60 = v2 at *
  have hR : RWS (u31 P u2, v2) 0 0 60 60 0 u2 v2 := ⟨by omega, by omega, by omega, by omega, by omega, u92, by rw [u93], v40, v41, ⟨fun j hj => absurd hj (Nat.not_lt_zero j), fun j hj => absurd hj (by omega), fun j hj => absurd hj (Nat.not_lt_zero j), fun j hj => absurd hj (by omega)⟩, fun j hj => absurd hj (Nat.not_lt_zero j)⟩
  obtain ⟨f, u3, v3, D', K, e1, e2, g1, g2, g3, g4, g5, g6, _⟩ := perf0 h1 h2 h3 h4 hp x y v39 hR
  refine ⟨f, u3, v3, K, e1, e2, g3, frZc_t f1 (frZc_XE g4), frV_t f2 (frV_FR g4.2.2.2.1.2.2.2), (g4.2.2.2.1.2.1 37 (by decide) (by decide) (by decide) (by decide)).trans u37, (g4.2.2.2.1.2.2.2.2.1 69 (by decide) (by decide) (by decide) (by decide) (by decide)).trans v69, fun e => ?_⟩
  obtain ⟨hRf, _⟩ := g5 e
  obtain ⟨_, _, _, R4, _, R6, _, R8, _, _, R10⟩ := hRf
  refine ⟨R4, by rw [R6, Nat.zero_add], by rw [R8, Nat.zero_add], fun j hj => ?_⟩
  have := R10 j hj
  rw [Nat.zero_add] at this
  exact this
end
