/-! row: the rows one after another -/
def frRo (u u' : q_W) : Prop := (∀ c, c ≠ 12 → c ≠ 13 → c ≠ 41 → u'.1 c = u.1 c) ∧ (∀ c k, ¬ (c = 12 ∧ k = 1) → u'.2.1 c k = u.2.1 c k) ∧ u'.2.2 = u.2.2
theorem frRo_r (u : q_W) : frRo u u := ⟨fun _ _ _ _ => rfl, fun _ _ _ => rfl, rfl⟩
theorem frRo_t {a b c : q_W} (h : frRo a b) (h' : frRo b c) : frRo a c := ⟨fun q x y z => (h'.1 q x y z).trans (h.1 q x y z), fun q k x => (h'.2.1 q k x).trans (h.2.1 q k x), h'.2.2.trans h.2.2⟩
theorem frRo_Z {u u' : q_W} (h : frRo u u') : frZc u u' := ⟨fun c a b => h.1 c (by omega) (by omega) (by omega), fun k _ _ => by rw [h.1 37 (by decide) (by decide) (by decide)], fun c k _ b => h.2.1 c k b, h.2.2⟩
def frZd (u u' : q_W) : Prop := (∀ c, ¬ (9 ≤ c ∧ c ≤ 13) → ¬ (31 ≤ c ∧ c ≤ 42) → u'.1 c = u.1 c) ∧ (∀ c k, c ≠ 31 → ¬ (c = 12 ∧ k = 1) → u'.2.1 c k = u.2.1 c k) ∧ u'.2.2 = u.2.2
theorem frZd_Z {u u' : q_W} (h : frZc u u') : frZd u u' := ⟨fun c a b => h.1 c a (by omega), h.2.2.1, h.2.2.2⟩
theorem frZd_t {a b c : q_W} (h : frZd a b) (h' : frZd b c) : frZd a c := ⟨fun q x y => (h'.1 q x y).trans (h.1 q x y), fun q k x y => (h'.2.1 q k x y).trans (h.2.1 q k x y), h'.2.2.trans h.2.2⟩
theorem frM_Zd {u u' : q_W} (h : frZd u u') : frM u u' := ⟨fun c a b d => h.1 c (by omega) (by omega), h.2.1, h.2.2⟩
theorem ch_Zd {k : Nat} {u u' : q_W} (f : frZd u u') (h : I_ch k u) : I_ch k u' := ⟨chOK_fr (Or.inl rfl) h.1 (f.1 14 (by decide) (by decide)) (f.1 15 (by decide) (by decide)) (f.1 5 (by decide) (by decide)) (f.1 6 (by decide) (by decide)), chOK_fr (Or.inr rfl) h.2 (f.1 18 (by decide) (by decide)) (f.1 19 (by decide) (by decide)) (f.1 5 (by decide) (by decide)) (f.1 6 (by decide) (by decide))⟩
theorem keepF_lok : ∀ d N i (w : q_W), i + d = 3 → d < N → ∃ w', q_it N fX3_keepFound_h7 (fun _ _ => none) (nI i) w = some ((), w') ∧ (∀ c, c ≠ 42 → w'.1 c = w.1 c) ∧ w'.2 = w.2 ∧ ∀ j, w'.1 42 j = if i ≤ j ∧ j < 3 then w.1 41 j else w.1 42 j := by
  intro d
  induction d with
  | zero =>
    intro N i w hd hN
    obtain ⟨N, rfl⟩ : ∃ z, N = z + 1 := ⟨N - 1, by omega⟩
    refine ⟨w, ?_, fun _ _ => rfl, rfl, fun j => by rw [if_neg (by omega)]⟩
    rw [q_itS, fX3_keepFound_h7, if_pos (by rw [show (3 : Int32) = nI 3 from rfl, nI_leI (by omega) (by omega)]; omega)]
  | succ d ih =>
    intro N i w hd hN
    obtain ⟨N, rfl⟩ : ∃ z, N = z + 1 := ⟨N - 1, by omega⟩
    obtain ⟨w', e1, e2, e3, e4⟩ := ih N (i + 1) (q_sI w 42 i (w.1 41 i)) (by omega) (by omega)
    refine ⟨w', ?_, fun c hc => by rw [e2 c hc, sI_cell _ _ _ _ _ hc], e3, fun j => ?_⟩
    · rw [q_itS, fX3_keepFound_h7, if_neg (by rw [show (3 : Int32) = nI 3 from rfl, nI_leI (by omega) (by omega)]; omega), if_pos (q_inb_nI (by omega) (by omega)), if_pos (q_inb_nI (by omega) (by omega)), q_ix_nI (by omega), q_lt_eq, q_lt_eq, nI_1, e1]
    · rw [e4, sI_cell _ _ _ _ 41 (by decide), sI_if]
      by_cases c1 : i + 1 ≤ j ∧ j < 3
      · rw [if_pos c1, if_pos (by omega)]
      · rw [if_neg c1]
        by_cases c2 : j = i
        · rw [if_pos c2, if_pos (by omega), c2]
        · rw [if_neg c2, if_neg (by omega)]
theorem rowOf_lok {L : Nat} (hL : L ≤ 3) : ∀ d N i (w : q_W), i + d = L → d < N → ∃ w', q_it N fX11_row_h197 (fun _ _ _ => none) (nI L) (nI i) w = some (nI L, w') ∧ (∀ c, c ≠ 35 → w'.1 c = w.1 c) ∧ w'.2 = w.2 ∧ ∀ j, w'.1 35 j = if i ≤ j ∧ j < L then w.1 36 j else w.1 35 j := by
  intro d
  induction d with
  | zero =>
    intro N i w hd hN
    obtain ⟨N, rfl⟩ : ∃ z, N = z + 1 := ⟨N - 1, by omega⟩
    refine ⟨w, ?_, fun _ _ => rfl, rfl, fun j => by rw [if_neg (by omega)]⟩
    rw [q_itS, fX11_row_h197, if_pos (by rw [nI_leI (by omega) (by omega)]; omega)]
  | succ d ih =>
    intro N i w hd hN
    obtain ⟨N, rfl⟩ : ∃ z, N = z + 1 := ⟨N - 1, by omega⟩
    obtain ⟨w', e1, e2, e3, e4⟩ := ih N (i + 1) (q_sI w 35 i (w.1 36 i)) (by omega) (by omega)
    refine ⟨w', ?_, fun c hc => by rw [e2 c hc, sI_cell _ _ _ _ _ hc], e3, fun j => ?_⟩
    · rw [q_itS, fX11_row_h197, if_neg (by rw [nI_leI (by omega) (by omega)]; omega), if_pos (q_inb_nI (by omega) (by omega)), if_pos (q_inb_nI (by omega) (by omega)), q_ix_nI (by omega), q_lt_eq, q_lt_eq, nI_1, e1]
    · rw [e4, sI_cell _ _ _ _ 36 (by decide), sI_if]
      by_cases c1 : i + 1 ≤ j ∧ j < L
      · rw [if_pos c1, if_pos (by omega)]
      · rw [if_neg c1]
        by_cases c2 : j = i
        · rw [if_pos c2, if_pos (by omega), c2]
        · rw [if_neg c2, if_neg (by omega)]
section
variable {s n t sh : Nat} {pm fo fr : Nat → Nat} {pg : Nat → List AI} {ws : List Int32} {cs : List Tr} {P S : Nat}
/-- what the search for a row rests on -/
def SRO (P S s n t sh : Nat) (pm fo fr : Nat → Nat) (pg : Nat → List AI) (ws : List Int32) (cs : List Tr) (u v : q_W) : Prop := SB P s n t sh pm fo fr pg ws cs u v ∧ S ≤ 480 ∧ u.1 9 2 = nI S ∧ ∀ p, p < n → EP P S pm u p
theorem EP_Q {u u' : q_W} (iP : isP P) (f : frRo u u') {p : Nat} (h : EP P S pm u p) : EP P S pm u' p := by
  have hP : 43 ≤ P := by rcases iP with e | e <;> omega
  exact EP_keep h (Nat.le_refl S) (fun q x y => f.1 q (by omega) (by omega) (by omega)) (fun q x y => by rw [f.1 q (by omega) (by omega) (by omega)]) (fun j _ => by rw [f.1 10 (by decide) (by decide) (by decide)]) (fun j _ => by rw [f.1 11 (by decide) (by decide) (by decide)])
theorem SRO_keep {u v u' v' : q_W} (h : SRO P S s n t sh pm fo fr pg ws cs u v) (a : frRo u u') (b : frV v v') : SRO P S s n t sh pm fo fr pg ws cs u' v' :=
  ⟨SB_keep h.1 (frRo_Z a) b, h.2.1, by rw [a.1 9 (by decide) (by decide) (by decide), h.2.2.1], fun p hp => EP_Q h.1.1 a (h.2.2.2 p hp)⟩
/-- a row was found by both -/
def FND (u v : q_W) (L : Nat) (u' v' : q_W) : Prop := L ≤ 3 ∧ frZd u u' ∧ frN v v' ∧ u'.1 37 9 = nI L ∧ v'.1 0 70 = nI L ∧ ∀ i, i < L → u'.1 42 i = v'.1 35 i
theorem FND_t {u v u1 v1 u' v' : q_W} {L : Nat} (a : frRo u u1) (b : frV v v1) (h : FND u1 v1 L u' v') : FND u v L u' v' := ⟨h.1, frZd_t (frZd_Z (frRo_Z a)) h.2.1, frN_t (frN_V b) h.2.2.1, h.2.2.2⟩
theorem row_st {u v : q_W} (h : SRO P S s n t sh pm fo fr pg ws cs u v) {x L dn B : Nat} (hn : 0 < n) (hL : L ≤ 3) (hx : x < n ^ L) (hR : n ^ L ≤ 512) (hd : dn < 2 ^ 31) (hB : B = if dn < 256 then dn + 1 else 256) {x2 : Int32} (h2 : q_imin x2 9 = nI t) (rec29 : Int32 → Int32 → Int32 → Int32 → Int32 → q_W → Option (Int32 × q_W)) (rec47 : Int32 → Int32 → Int32 → Int32 → Int32 → Int32 → q_W → Option (Int32 × q_W)) (rec33 : Int32 → Int32 → Int32 → Int32 → q_W → Option (Int32 × q_W)) (rec49 : Int32 → Int32 → Int32 → Int32 → Int32 → q_W → Option (Int32 × q_W)) : (∃ u' v', fX3_seekRow_h47 P rec29 rec47 x2 (nI dn) (nI (n ^ L)) (nI B) (nI L) (nI x) u = rec47 x2 (nI dn) (nI (n ^ L)) (nI B) (nI L) (nI (x + 1)) u' ∧ fX11_row_h49 rec33 rec49 (nI dn) (nI n) (nI (n ^ L)) (nI L) (nI x) v = rec49 (nI dn) (nI n) (nI (n ^ L)) (nI L) (nI (x + 1)) v' ∧ frRo u u' ∧ frV v v') ∨ (∃ u' v', fX3_seekRow_h47 P rec29 rec47 x2 (nI dn) (nI (n ^ L)) (nI B) (nI L) (nI x) u = some (1, u') ∧ fX11_row_h49 rec33 rec49 (nI dn) (nI n) (nI (n ^ L)) (nI L) (nI x) v = some (nI L, v') ∧ FND u v L u' v') := by
  have hqN : 60 < q_N := Nat.le_of_ble_eq_true rfl
  obtain ⟨hSB, hS, h92, hE⟩ := h
  have iP := hSB.1
  have n8 := hSB.2.2.2.1.1
  -- the class: members
  obtain ⟨u1, e1, e2, e3, e4⟩ := setC_lok hn n8 L q_N x u hL (by omega) hx (by omega)
  have f1 : frRo u u1 := ⟨fun c _ _ a => e2 c a, fun c k _ => by rw [e3], by rw [e3]⟩
  have hE1 : ∀ p, p < n → EP P S pm u1 p := fun p hp => EP_Q iP f1 (hE p hp)
  have hm1 : ∀ j, j < L → u1.1 41 j = nI (memb n L x j) ∧ memb n L x j < n := fun j hj => ⟨by rw [e4, if_pos hj], memb_lt hn L x j⟩
  obtain ⟨r, g1, g2⟩ := hold_lok (ms := memb n L x) n8 (EP_HE hS hE1) hL hm1 L q_N 0 (by omega) (by omega) (Nat.zero_le _) (Nat.zero_le _)
  have g1 : q_it q_N fX3_holdsTogether_h7 (fun _ _ _ _ _ => none) (nI L) 0 0 0 u1 = some (r, u1) := g1
  have hC : fX3_seekRow_h47 P rec29 rec47 x2 (nI dn) (nI (n ^ L)) (nI B) (nI L) (nI x) u = if r = 0 then fX3_seekRow_n110 P rec29 rec47 x2 (nI dn) (nI (n ^ L)) (nI B) (nI L) (nI x) u1 else q_b (fX3_pickMembers (nI L) x2 u1) fun r8 w9 => q_b (fX8_unlikeUpTo 14 (nI B) w9) fun r10 w11 => if nI dn < r10 then fX3_seekRow_n110 P rec29 rec47 x2 (nI dn) (nI (n ^ L)) (nI B) (nI L) (nI x) w11 else q_b (fX3_keepFound (nI L) w11) fun r12 w13 => some (1, w13) := by
    unfold fX3_seekRow_h47 fX3_setMembers fX3_setMembers_l19 fX3_holdsTogether fX3_holdsTogether_l7
    rw [if_neg (by rw [nI_leI (by omega) (by omega)]; omega), size_SB hSB.2.2.2.1 iP, q_b_some, if_neg (nI_nle (by omega) (by omega)), if_pos (by rw [show (3 : Int32) = nI 3 from rfl, nI_leI (by omega) (by omega)]; omega), q_lt_eq, e1, q_b_some, if_neg i_10, g1, q_b_some]
  have n110 : ∀ w, fX3_seekRow_n110 P rec29 rec47 x2 (nI dn) (nI (n ^ L)) (nI B) (nI L) (nI x) w = rec47 x2 (nI dn) (nI (n ^ L)) (nI B) (nI L) (nI (x + 1)) w := by
    intro w
    unfold fX3_seekRow_n110
    rw [q_lt_eq, nI_1]
  -- the reference: members
  obtain ⟨v1, p1, p2, p3, p4⟩ := setR_lok hn n8 rec33 rec49 (nI dn) (nI (n ^ L)) (nI L) (nI x) L q_N x v hL (by omega) (by omega)
  have fv1 : frV v (q_sI (q_sI (q_sI v1 0 39 0) 0 40 0) 0 41 60) := frV_t (b := v1) ⟨fun c a => p2 c (by omega), fun k a => by rw [p2 0 (by decide)], p3, fun i _ => by rw [p2 32 (by decide)]⟩ (frV_t (frV_t (frV_I (by decide)) (frV_I (by decide))) (frV_I (by decide)))
  have v236 : (q_sI (q_sI (q_sI v1 0 39 0) 0 40 0) 0 41 60).1 36 = v1.1 36 := by rw [sI_cell _ _ _ _ 36 (by decide), sI_cell _ _ _ _ 36 (by decide), sI_cell _ _ _ _ 36 (by decide)]
  have hW0 : RWM u1 (memb n L x) 0 (q_sI (q_sI (q_sI v1 0 39 0) 0 40 0) 0 41 60) := ⟨by rw [sI_k _ _ _ _ _ (by decide), sI_k _ _ _ _ _ (by decide), sI_same]; rfl, by rw [sI_k _ _ _ _ _ (by decide), sI_same]; rfl, sI_same _ _ _ _, fun j hj => absurd hj (Nat.not_lt_zero j)⟩
  have hRf : fX11_row_h49 rec33 rec49 (nI dn) (nI n) (nI (n ^ L)) (nI L) (nI x) v = fX11_row_l108 rec33 rec49 (nI dn) (nI n) (nI (n ^ L)) (nI L) (nI x) 1 0 (q_sI (q_sI (q_sI v1 0 39 0) 0 40 0) 0 41 60) := by
    unfold fX11_row_h49 fX11_row_l66
    rw [if_neg (by rw [nI_leI (by omega) (by omega)]; omega), q_lt_eq, p1, begins60, q_b_some]
  generalize q_sI (q_sI (q_sI v1 0 39 0) 0 40 0) 0 41 60 = v2 at *
  obtain ⟨v3, b1, b2, b3⟩ := refM_lok (ms := memb n L x) hS hE1 hL (fun j hj => (hm1 j hj).2) rec33 rec49 (nI dn) (nI (n ^ L)) (nI x) L q_N 0 v2 (by omega) (by omega) (SB_keep hSB (frRo_Z f1) fv1) (fun j hj => by rw [v236, p4, if_pos hj]) (Nat.zero_le _) (Nat.zero_le _) hW0
  have n227 : ∀ w, fX11_row_n227 rec33 rec49 (nI dn) (nI n) (nI (n ^ L)) (nI L) (nI x) w = rec49 (nI dn) (nI n) (nI (n ^ L)) (nI L) (nI (x + 1)) w := by
    intro w
    unfold fX11_row_n227
    rw [q_lt_eq, nI_1]
  unfold fX11_row_l108 at hRf
  rw [nI_0] at b3
  rcases b3 with ⟨ok, b3, b4⟩ | ⟨nok, b3⟩
  · rcases g2 with ⟨hr, _⟩ | ⟨_, no⟩
    · -- both hold: the strokes are picked
      obtain ⟨w, k1, k2, k3, _, k5, k6, k7⟩ := pickM_lok (ms := memb n L x) n8 (EP_HE hS hE1) hL hm1 ok L q_N 0 (q_sI (q_sI (q_sR u1 12 1 9) 12 2 0) 12 3 (nI t)) (by omega) (by omega) (fun c a b => by rw [sI_cell _ _ _ _ _ a, sI_cell _ _ _ _ _ a]; rfl) (by rw [sI_k _ _ _ _ _ (by decide), sI_same]; rfl)
      have wc : ∀ c, c ≠ 12 → c ≠ 13 → w.1 c = u1.1 c := fun c a b => by
        rw [k5 c a b, sI_cell _ _ _ _ _ a, sI_cell _ _ _ _ _ a]; rfl
      have w21 : ∀ c k, w.2.1 c k = if c = 12 ∧ k = 1 then 9 else u1.2.1 c k := fun c k => by rw [k7]; rfl
      have w22 : w.2.2 = u1.2.2 := by rw [k7]; rfl
      have hpick : fX3_pickMembers (nI L) x2 u1 = some ((), w) := by
        unfold fX3_pickMembers fX0_begin fX3_pickMembers_l14
        rw [nI_0] at k1
        rw [if_pos (by decide), q_lt_eq, q_lt_eq, q_lt_eq, h2, q_b_some, k1]
      have hB31 : B < 2 ^ 31 := by
        rw [hB]
        by_cases c : dn < 256
        · rw [if_pos c]; omega
        · rw [if_neg c]; omega
      obtain ⟨c, w', v', c256, q1, q2, q3, q4, q5, q6⟩ := row_cmp (SB_keep hSB (frRo_Z f1) (frV_t fv1 b1)) hS (by rw [f1.1 9 (by decide) (by decide) (by decide), h92]) hE1 (fun j hj => (hm1 j hj).2) ok b4 wc (by rw [w21, if_pos ⟨rfl, rfl⟩]) k2 (by rw [k6 3 (by decide), sI_same]) (fun j hj r hr => k3 j (Nat.zero_le _) hj r hr) hB31
      have fw : frRo u w' := frRo_t f1 ⟨fun c x y _ => by rw [q3 c x, wc c x y], fun c k x => by rw [q4, w21, if_neg x], by rw [q4, w22]⟩
      have fv : frV v v' := frV_t (frV_t fv1 b1) q5
      rw [hC, hr, if_neg i_10, hpick, q_b_some, q1, q_b_some, hRf, b3]
      unfold fX11_row_n172
      rw [if_neg i_10, q2, q_b_some]
      have hmin : dn < min B c ↔ ¬ c ≤ dn := by
        rw [hB]
        by_cases cd : dn < 256
        · rw [if_pos cd]; omega
        · rw [if_neg cd]; omega
      by_cases cd : c ≤ dn
      · right
        obtain ⟨w2, m1, m2, m3, m4⟩ := keepF_lok 3 q_N 0 (q_sI w' 37 9 (nI L)) rfl (by omega)
        obtain ⟨v4, o1, o2, o3, o4⟩ := rowOf_lok hL L q_N 0 (q_sI v' 0 70 (nI L)) (by omega) (by omega)
        refine ⟨w2, v4, ?_, ?_, hL, frZd_t (frZd_Z (frRo_Z fw)) ⟨fun c a b => by rw [m2 c (by omega), sI_cell _ _ _ _ _ (by omega)], fun c k _ _ => by rw [m3]; rfl, by rw [m3]; rfl⟩, frN_t (frN_V fv) ⟨fun c a => by rw [o2 c (by omega), sI_cell _ _ _ _ _ (by omega)], fun k a => by rw [o2 0 (by decide), sI_k _ _ _ _ _ (by omega)], by rw [o3]; rfl⟩, ?_, ?_, fun i hi => ?_⟩
        · unfold fX3_keepFound fX3_keepFound_l7
          rw [nI_0] at m1
          rw [if_neg (by rw [nI_ltI (by omega) (by omega)]; omega), q_lt_eq, m1, q_b_some]
        · unfold fX11_row_l197
          rw [nI_0] at o1
          rw [if_pos (by rw [nI_leI (by omega) (by omega)]; exact cd), q_lt_eq, o1]
        · rw [m2 37 (by decide), sI_same]
        · rw [o2 0 (by decide), sI_same]
        · rw [m4, if_pos (by omega), o4, if_pos (by omega), sI_cell _ _ _ _ 41 (by decide), sI_cell _ _ _ _ 36 (by decide), q3 41 (by decide), wc 41 (by decide) (by decide), (hm1 i hi).1, q6, b2, v236, p4, if_pos hi]
      · left
        refine ⟨w', v', ?_, ?_, fw, fv⟩
        · rw [if_pos (by rw [nI_ltI (by omega) (by omega)]; omega), n110]
        · rw [if_neg (by rw [nI_leI (by omega) (by omega)]; exact cd), n227]
    · exact absurd ok no
  · rcases g2 with ⟨_, ok⟩ | ⟨hr, _⟩
    · exact absurd ok nok
    · left
      refine ⟨u1, v3, by rw [hC, hr, if_pos rfl, n110], by rw [hRf, b3, n227], f1, frV_t fv1 b1⟩
theorem rowN_lok {L dn B : Nat} (hL0 : 0 < L) (hL : L ≤ 3) (hR : n ^ L ≤ 512) (hd : dn < 2 ^ 31) (hB : B = if dn < 256 then dn + 1 else 256) {x2 : Int32} (h2 : q_imin x2 9 = nI t) (rec29 : Int32 → Int32 → Int32 → Int32 → Int32 → q_W → Option (Int32 × q_W)) (rec33 : Int32 → Int32 → Int32 → Int32 → q_W → Option (Int32 × q_W)) : ∀ d N M x (u v : q_W), x + d = n ^ L → d < N → d < M → SRO P S s n t sh pm fo fr pg ws cs u v → (∃ u' v', q_it N (fX3_seekRow_h47 P rec29) (fun _ _ _ _ _ _ _ => none) x2 (nI dn) (nI (n ^ L)) (nI B) (nI L) (nI x) u = rec29 x2 (nI dn) (nI (n ^ L)) (nI B) (nI (L + 1)) u' ∧ q_it M (fX11_row_h49 rec33) (fun _ _ _ _ _ _ => none) (nI dn) (nI n) (nI (n ^ L)) (nI L) (nI x) v = rec33 (nI dn) (nI n) (nI (n ^ L)) (nI (L + 1)) v' ∧ frRo u u' ∧ frV v v') ∨ (∃ u' v', q_it N (fX3_seekRow_h47 P rec29) (fun _ _ _ _ _ _ _ => none) x2 (nI dn) (nI (n ^ L)) (nI B) (nI L) (nI x) u = some (1, u') ∧ q_it M (fX11_row_h49 rec33) (fun _ _ _ _ _ _ => none) (nI dn) (nI n) (nI (n ^ L)) (nI L) (nI x) v = some (nI L, v') ∧ FND u v L u' v') := by
  intro d
  induction d with
  | zero =>
    intro N M x u v hx hN hM h
    obtain ⟨N, rfl⟩ : ∃ z, N = z + 1 := ⟨N - 1, by omega⟩
    obtain ⟨M, rfl⟩ : ∃ z, M = z + 1 := ⟨M - 1, by omega⟩
    left
    refine ⟨u, v, ?_, ?_, frRo_r u, frV_r v⟩
    · rw [q_itS, fX3_seekRow_h47, if_pos (by rw [nI_leI (by omega) (by omega)]; omega), q_lt_eq, nI_1]
    · rw [q_itS, fX11_row_h49, if_pos (by rw [nI_leI (by omega) (by omega)]; omega), q_lt_eq, nI_1]
  | succ d ih =>
    intro N M x u v hx hN hM h
    obtain ⟨N, rfl⟩ : ∃ z, N = z + 1 := ⟨N - 1, by omega⟩
    obtain ⟨M, rfl⟩ : ∃ z, M = z + 1 := ⟨M - 1, by omega⟩
    have hn : 0 < n := by
      rcases Nat.eq_zero_or_pos n with e | e
      · subst e
        rw [Nat.zero_pow hL0] at hx
        omega
      · exact e
    rcases row_st h hn hL (show x < n ^ L by omega) hR hd hB h2 rec29 (q_it N (fX3_seekRow_h47 P rec29) (fun _ _ _ _ _ _ _ => none)) rec33 (q_it M (fX11_row_h49 rec33) (fun _ _ _ _ _ _ => none)) with ⟨u1, v1, e1, e2, f1, f2⟩ | ⟨u', v', e1, e2, f⟩
    · rcases ih N M (x + 1) u1 v1 (by omega) (by omega) (by omega) (SRO_keep h f1 f2) with ⟨u', v', g1, g2, f3, f4⟩ | ⟨u', v', g1, g2, f⟩
      · exact Or.inl ⟨u', v', by rw [q_itS, e1, g1], by rw [q_itS, e2, g2], frRo_t f1 f3, frV_t f2 f4⟩
      · exact Or.inr ⟨u', v', by rw [q_itS, e1, g1], by rw [q_itS, e2, g2], FND_t f1 f2 f⟩
    · exact Or.inr ⟨u', v', by rw [q_itS, e1], by rw [q_itS, e2], f⟩
theorem rowL_lok {dn B : Nat} (hd : dn < 2 ^ 31) (hB : B = if dn < 256 then dn + 1 else 256) {x2 : Int32} (h2 : q_imin x2 9 = nI t) : ∀ d N M L (u v : q_W), L + d = 4 → 0 < L → d < N → d < M → SRO P S s n t sh pm fo fr pg ws cs u v → (∃ u' v', q_it N (fX3_seekRow_h29 P) (fun _ _ _ _ _ _ => none) x2 (nI dn) (nI (n ^ (L - 1))) (nI B) (nI L) u = some (0, u') ∧ q_it M fX11_row_h33 (fun _ _ _ _ _ => none) (nI dn) (nI n) (nI (n ^ (L - 1))) (nI L) v = some (-2, v') ∧ frRo u u' ∧ frV v v') ∨ (∃ L' u' v', q_it N (fX3_seekRow_h29 P) (fun _ _ _ _ _ _ => none) x2 (nI dn) (nI (n ^ (L - 1))) (nI B) (nI L) u = some (1, u') ∧ q_it M fX11_row_h33 (fun _ _ _ _ _ => none) (nI dn) (nI n) (nI (n ^ (L - 1))) (nI L) v = some (nI L', v') ∧ FND u v L' u' v') := by
  have hqN : 512 < q_N := Nat.le_of_ble_eq_true rfl
  intro d
  induction d with
  | zero =>
    intro N M L u v hL hL0 hN hM h
    obtain ⟨N, rfl⟩ : ∃ z, N = z + 1 := ⟨N - 1, by omega⟩
    obtain ⟨M, rfl⟩ : ∃ z, M = z + 1 := ⟨M - 1, by omega⟩
    left
    refine ⟨u, v, ?_, ?_, frRo_r u, frV_r v⟩
    · rw [q_itS, fX3_seekRow_h29, if_pos (by rw [show (3 : Int32) = nI 3 from rfl, nI_ltI (by omega) (by omega)]; omega)]
    · rw [q_itS, fX11_row_h33, if_pos (by rw [show (4 : Int32) = nI 4 from rfl, nI_leI (by omega) (by omega)]; omega)]
  | succ d ih =>
    intro N M L u v hL hL0 hN hM h
    obtain ⟨N, rfl⟩ : ∃ z, N = z + 1 := ⟨N - 1, by omega⟩
    obtain ⟨M, rfl⟩ : ∃ z, M = z + 1 := ⟨M - 1, by omega⟩
    have n8 := h.1.2.2.2.1.1
    have hR : n ^ L ≤ 512 := by
      have a1 : n ^ L ≤ 8 ^ L := Nat.pow_le_pow_left n8 L
      have a2 : 8 ^ L ≤ 8 ^ 3 := Nat.pow_le_pow_right (by omega) (by omega)
      omega
    have hpow : n ^ (L - 1) * n = n ^ L := by
      rw [← Nat.pow_succ, show (L - 1).succ = L by omega]
    have hC : fX3_seekRow_h29 P (q_it N (fX3_seekRow_h29 P) (fun _ _ _ _ _ _ => none)) x2 (nI dn) (nI (n ^ (L - 1))) (nI B) (nI L) u = q_it q_N (fX3_seekRow_h47 P (q_it N (fX3_seekRow_h29 P) (fun _ _ _ _ _ _ => none))) (fun _ _ _ _ _ _ _ => none) x2 (nI dn) (nI (n ^ L)) (nI B) (nI L) (nI 0) u := by
      unfold fX3_seekRow_h29 fX3_seekRow_l47
      rw [if_neg (by rw [show (3 : Int32) = nI 3 from rfl, nI_ltI (by omega) (by omega)]; omega), size_SB h.1.2.2.2.1 h.1.1, q_b_some, pk_mul, hpow, q_lt_eq]
      rfl
    have hRf : fX11_row_h33 (q_it M fX11_row_h33 (fun _ _ _ _ _ => none)) (nI dn) (nI n) (nI (n ^ (L - 1))) (nI L) v = q_it q_N (fX11_row_h49 (q_it M fX11_row_h33 (fun _ _ _ _ _ => none))) (fun _ _ _ _ _ _ => none) (nI dn) (nI n) (nI (n ^ L)) (nI L) (nI 0) v := by
      unfold fX11_row_h33 fX11_row_l49
      rw [if_neg (by rw [show (4 : Int32) = nI 4 from rfl, nI_leI (by omega) (by omega)]; omega), pk_mul, hpow, q_lt_eq]
      rfl
    rcases rowN_lok hL0 (by omega) hR hd hB h2 (q_it N (fX3_seekRow_h29 P) (fun _ _ _ _ _ _ => none)) (q_it M fX11_row_h33 (fun _ _ _ _ _ => none)) (n ^ L) q_N q_N 0 u v (by omega) (by omega) (by omega) h with ⟨u1, v1, e1, e2, f1, f2⟩ | ⟨u', v', e1, e2, f⟩
    · have hi := ih N M (L + 1) u1 v1 (by omega) (by omega) (by omega) (by omega) (SRO_keep h f1 f2)
      rw [show L + 1 - 1 = L by omega] at hi
      rcases hi with ⟨u', v', g1, g2, f3, f4⟩ | ⟨L', u', v', g1, g2, f⟩
      · exact Or.inl ⟨u', v', by rw [q_itS, hC, e1, g1], by rw [q_itS, hRf, e2, g2], frRo_t f1 f3, frV_t f2 f4⟩
      · exact Or.inr ⟨L', u', v', by rw [q_itS, hC, e1, g1], by rw [q_itS, hRf, e2, g2], FND_t f1 f2 f⟩
    · exact Or.inr ⟨L, u', v', by rw [q_itS, hC, e1], by rw [q_itS, hRf, e2], f⟩
end
theorem sim_row {u v : q_W} {k : Nat} (hl : I_log k u v) (hv : I_val k u) (hb : I_bnd k u) (hc : I_ch k u) (hp : I_prog u v) (hr : I_row u v) (a d b : Int32) : ∃ r u' v', fX10_row a d b u = some (r, u') ∧ fX11_row a d b v = some (r, v') ∧ frM u u' ∧ I_ch k u' ∧ frN v v' ∧ I_row u' v' := by
  have hqN : 512 < q_N := Nat.le_of_ble_eq_true rfl
  unfold fX10_row fX11_row
  by_cases h0 : d < 0
  · rw [if_pos h0, if_pos h0]
    exact ⟨_, _, _, rfl, rfl, frM_r u, hc, frN_r v, hr⟩
  · rw [if_neg h0, if_neg h0]
    obtain ⟨dn, hdn, rfl⟩ := nI_of h0
    rcases take14s hl hv hb hc a b with ⟨u1, v1, n, s, e, e', f, c', f', a1, a2, rfl, rfl, a5, ⟨a6, a7⟩, cc⟩ | ⟨u', v', e, e', f, c', f'⟩
    · have hk := hl.1
      have hcl := cntL_le u n n 0
      obtain ⟨P, s0, m, pm, fo, fr, pg, ws, cs, hP, hS⟩ := SB_take hp f f' a6 a7 a5 (by omega) (fun i hi => (cc i hi).1.trans (cc i hi).2.symm)
      have hr1 := row_X f (frY_G f') hr
      obtain ⟨u2, S, g1, g2, g3, g4, g5⟩ := each_ok hS
      have hS2 := SB_keep hS g2 (frV_r v1)
      have hs := hS.2.1
      have h18 := hS.2.2.1
      have h8 := hS.2.2.2.1.2.2.2.1
      rw [e, q_b_some, if_neg i_10, e', q_b_some, if_neg i_10, hP, if_pos (isP_c hS.1), h18, q_lt_eq, if_pos (q_inb_nI (by omega) (by omega)), q_ix_nI (by omega), h8, q_lt_eq]
      have hC : fX3_seekRow P (nI s) (nI dn) u1 = q_it q_N (fX3_seekRow_h29 P) (fun _ _ _ _ _ _ => none) (nI s) (nI dn) (nI (m ^ (1 - 1))) (nI (if dn < 256 then dn + 1 else 256)) (nI 1) u2 := by
        unfold fX3_seekRow fX3_seekRow_n24 fX3_seekRow_l29
        rw [if_pos (isP_c hS.1), g1, q_b_some]
        by_cases c : dn < 256
        · rw [if_neg (by rw [show (256 : Int32) = nI 256 from rfl, nI_leI (by omega) (by omega)]; omega), if_pos c, nI_1]
          rfl
        · rw [if_pos (by rw [show (256 : Int32) = nI 256 from rfl, nI_leI (by omega) (by omega)]; omega), if_neg c]
          rfl
      have hRf : fX11_row_l33 (nI dn) (nI m) 1 1 v1 = q_it q_N fX11_row_h33 (fun _ _ _ _ _ => none) (nI dn) (nI m) (nI (m ^ (1 - 1))) (nI 1) v1 := rfl
      rw [hC, hRf]
      rcases rowL_lok hdn rfl (imin9 s (by omega)) 3 q_N q_N 1 u2 v1 rfl (by omega) (by omega) (by omega) ⟨hS2, g3, g4, g5⟩ with ⟨u3, v3, q1, q2, q3, q4⟩ | ⟨L, u3, v3, q1, q2, q3, q4, q5, q6, q7, q8⟩
      · rw [q1, q2, q_b_some, if_pos rfl]
        have fz := frZc_t g2 (frRo_Z q3)
        exact ⟨_, _, _, rfl, rfl, frM_t (frM_X f) (frM_S fz), ch_S fz c', frN_t (frN_Y (frY_G f')) (frN_V q4), row_S fz q4 hr1⟩
      · rw [q1, q2, q_b_some, if_neg i_10]
        unfold fX3_foundLength
        rw [q_b_some, q6]
        have fz := frZd_t (frZd_Z g2) q4
        exact ⟨_, _, _, rfl, rfl, frM_t (frM_X f) (frM_Zd fz), ch_Zd fz c', frN_t (frN_Y (frY_G f')) q5, L, q3, q6, q7, q8⟩
    · rw [e, q_b_some, if_pos rfl, e', q_b_some, if_pos rfl]
      exact ⟨_, _, _, rfl, rfl, frM_X f, c', frN_Y (frY_G f'), row_X f (frY_G f') hr⟩
