/-! one unit, both sides -/
def adN (ns : List (Nat × Int32)) (L : Nat × Int32) : Nat × Int32 := ns.foldl (fun L x => noteL x L) L
def okNs (ns : List (Nat × Int32)) : Prop := ∀ x, x ∈ ns → 1 ≤ x.1 ∧ x.1 ≤ 5
theorem adN_app (a b : List (Nat × Int32)) (L : Nat × Int32) : adN (a ++ b) L = adN b (adN a L) := List.foldl_append
theorem okNs_app {a b : List (Nat × Int32)} (h : okNs a) (h' : okNs b) : okNs (a ++ b) := fun x hx => by
  rcases List.mem_append.mp hx with c | c
  · exact h x c
  · exact h' x c
theorem okNs_nil : okNs [] := fun x hx => by cases hx
theorem noteL_5 {x L : Nat × Int32} (hx : x.1 ≤ 5) (hL : L.1 ≤ 5) : (noteL x L).1 ≤ 5 := by
  unfold noteL
  repeat (first | assumption | split)
theorem adN_5 : ∀ (ns : List (Nat × Int32)) (L : Nat × Int32), okNs ns → L.1 ≤ 5 → (adN ns L).1 ≤ 5 := by
  intro ns
  induction ns with
  | nil => intro L _ h; exact h
  | cons x ns ih =>
    intro L h hL
    exact ih (noteL x L) (fun y hy => h y (List.mem_cons_of_mem _ hy)) (noteL_5 (h x List.mem_cons_self).2 hL)
def rOK (r : Nat) : Prop := (1 ≤ r ∧ r ≤ 17) ∨ (20 ≤ r ∧ r ≤ 34) ∨ r = 0
theorem km_inj0 : ∀ a, a < 35 → ∀ b, b < 35 → (a = b ∨ km a ≠ km b ∨ a = 18 ∨ a = 19 ∨ b = 18 ∨ b = 19) := by decide +kernel
theorem km_ne {a b : Nat} (ha : rOK a) (hb : rOK b) (h : a ≠ b) : ¬ km a = km b := by
  unfold rOK at *
  intro e
  rcases km_inj0 a (by omega) b (by omega) with c | c | c | c | c | c
  · exact h c
  · exact c e
  · omega
  · omega
  · omega
  · omega
/-- the token at t, for both -/
theorem tkn {T s t : Nat} {nl : List (List Nat)} {sl : Nat → Nat} {u v : q_W} (E : EC T s nl sl u v) (ht : t ≤ T) : ∃ r, rOK r ∧ v.1 3 t = nI r ∧ u.1 26 t = km r ∧ v.1 4 t = u.1 27 t ∧ (r = 1 → ∃ l, okL l ∧ u.2.2 28 t = lN (q2 l) ∧ v.2.2 6 t = lN (r2 l)) ∧ (r = 2 → ∃ y, y < 10000 ∧ u.2.2 28 t = lN y ∧ v.1 5 t = nI y) ∧ (r ≠ 0 → r ≠ 3 → t < 500 → t < T) := by
  obtain ⟨h1, h2, h3, h4⟩ := E.1
  obtain ⟨r, a, b, c, d, e, f⟩ := h2 t ht
  refine ⟨r, a, b, c, d, e, f, fun n0 n3 h5 => ?_⟩
  rcases Nat.lt_or_ge t T with c1 | c1
  · exact c1
  · have : t = T := by omega
    subst this
    rcases h4 with c2 | c2 | c2
    · omega
    · rw [b] at c2
      exact absurd c2 (nI_ne (b := 0) (by clear d e; omega) (by decide) n0)
    · rw [b] at c2
      exact absurd c2 (nI_ne (b := 3) (by clear d e; omega) (by decide) n3)
theorem isR {s t op r : Nat} {L : Nat × Int32} {cs : List Tr} {W : List Nat} {v : q_W} (h : PR s t L cs W op v) (ht : t ≤ 500) (hr : v.1 3 t = nI r) (hrr : rOK r) (k : Nat) (hk : k < 2 ^ 31) : fX11_is (nI k) v = some (if r = k then 1 else 0, v) := by
  rw [is_st h ht, hr]
  unfold rOK at hrr
  by_cases c : r = k
  · rw [if_pos (by rw [c]), if_pos c]
  · rw [if_neg (nI_ne (by omega) hk c), if_neg c]
def Y31k (K N M : Nat) (b o : Int32) (v : q_W) : Option (Unit × q_W) := q_b (q_it K fX11_turnsRound_h0 (fun _ => none) v) fun _ w => Z31 N M b o w
def XOK (P T s t d : Nat) (L1 L2 : Nat × Int32) (ws : List Int32) (cs : List Tr) (W : List Nat) (nl : List (List Nat)) (sl : Nat → Nat) (u v : q_W) (pd : List Nat) (c0 bd k0 N9 : Nat) (K : Nat → Nat → Nat → q_W → Option (Unit × q_W)) (Q : Nat → Prop) (cu rv : Option (Unit × q_W)) : Prop :=
  ∃ u' t' es ns v' K' N' M', cu = some ((), u') ∧ PC P t' (adN ns L1) (ws ++ wds (es ++ opIts pd)) u' ∧ frP1 P u u' ∧ t ≤ t' ∧ t' ≤ T ∧ okNs ns ∧ rv = K K' N' M' v' ∧ PR s t' (adN ns L2) (cs ++ trs es) (W ++ pd) d v' ∧ frR1 s v v' ∧ N9 ≤ N' + (t' - t) ∧ q_N ≤ M' + (7 - d) ∧ q_N ≤ K' + (7 - d) ∧ (wds es).length + pd.length ≤ 2 * (t' - t) + c0 ∧ es.length + pd.length ≤ t' - t + c0 ∧ (ns = [] → ndp nl → ∀ x, x ∈ es → gI nl.length sl x) ∧ (∀ h, h + bd ≤ 40 → HG 40 (es ++ opIts pd) (h + k0) (h + 1)) ∧ Q t'
def XF (P s : Nat) (u v : q_W) (cu rv : Option (Unit × q_W)) : Prop := ∃ f p u' v' m, cu = some ((), u') ∧ FC P f p u' ∧ frP1 P u u' ∧ rv = some ((), v') ∧ FR s f p m v' ∧ frR1 s v v'
def UL (P T s : Nat) (nl : List (List Nat)) (sl : Nat → Nat) (n d : Nat) : Prop := ∀ (N9 M o t : Nat) (L1 L2 : Nat × Int32) (ws : List Int32) (cs : List Tr) (W : List Nat) (u v : q_W) (b : Int32), EC T s nl sl u v → PC P t L1 ws u → PR s t L2 cs W d v → L2.1 ≤ 5 → t ≤ T → ws.length ≤ 3 * t + 30 → cs.length ≤ 2 * t + 30 → W.length ≤ 3 * d + 3 → 501 - t < N9 → 8 ≤ M + d → o ≤ d →
  XOK P T s t d L1 L2 ws cs W nl sl u v [] 0 (bU d) 0 N9 (fun K N M w => Y31k K N M b (nI o) w) (fun t' => t < t') (q_unit n (nI d) u) (X20 N9 M b (nI o) v) ∨ XF P s u v (q_unit n (nI d) u) (X20 N9 M b (nI o) v)
/-- a fault within a unit ends the reference's expression -/
theorem h20_F {s f m N M : Nat} {p : Int32} {v : q_W} (h : FR s f p m v) (b o : Int32) : X20 N (M + 1) b o v = some ((), v) := by
  unfold X20
  have hu : fX11_unit v = some ((), v) := by
    unfold fX11_unit
    rw [is_F h, q_b_some, if_pos rfl, q_lt_eq, must_F h, q_b_some, h.2.2.2.1, if_neg (nI_ne0 (by have := h.2.1; omega) (by have := h.2.2.1; omega))]
  rw [q_itS, fX11_expression_h20, is_F h, q_b_some, if_pos rfl, is_F h, q_b_some, if_pos rfl, hu, q_b_some, h.2.2.2.1, if_neg (nI_nle (by have := h.2.1; omega) (by have := h.2.2.1; omega))]
/-- one prefix sign too many, or no room for it: the reference's way to the end -/
theorem pre_F {s f N M n : Nat} {p : Int32} {v : q_W} (h : FR s f p 40 v) (hn : v.1 0 38 = nI n) (hn2 : n < 40) (b o : Int32) : ∃ v', fX11_expression_n52 (R9 N) (q_it (M + 1) (fX11_expression_h20 (R9 N)) (fun _ _ _ => none)) b o v = some ((), v') ∧ FR s f p 40 v' ∧ frR1 s v v' := by
  unfold fX11_expression_n52
  rw [q_lt_eq]
  have h1 : FR s f p 40 (q_sI v 0 12 (v.1 0 12 + 1)) := by
    obtain ⟨a1, a2, a3, a4, a5, ⟨c, c1, c2⟩, ⟨n0, n1, n2, n3⟩, t, t1, t2⟩ := h
    exact ⟨a1, a2, a3, by rw [sI_k _ _ _ _ _ (by decide), a4], by rw [sI_k _ _ _ _ _ (by decide), a5], ⟨c, c1, by rw [sI_k _ _ _ _ _ (by decide), c2]⟩, ⟨n0, n1, n2, by rw [sI_k _ _ _ _ _ (by decide), n3]⟩, t, t1, by rw [sI_k _ _ _ _ _ (by decide), t2]⟩
  rw [is_F h1, q_b_some, if_pos rfl]
  unfold fX11_expression_n74
  rw [is_F h1, q_b_some, if_pos rfl]
  unfold fX11_expression_n97
  rw [sI_k _ _ _ _ _ (show 38 ≠ 12 by decide), hn, if_pos (q_inb_nI (by omega) (by omega)), q_lt_eq, q_lt_eq, q_ix_nI (by omega), sI_cell _ _ _ _ 0 (by decide), sI_k _ _ _ _ _ (show 38 ≠ 12 by decide), hn, nI_1]
  have h2 : FR s f p 40 (q_sI (q_sI (q_sI v 0 12 (v.1 0 12 + 1)) 20 n 1) 0 38 (nI (n + 1))) := by
    obtain ⟨a1, a2, a3, a4, a5, ⟨c, c1, c2⟩, ⟨n0, n1, n2, n3⟩, t, t1, t2⟩ := h1
    exact ⟨a1, a2, a3, by rw [sI_k _ _ _ _ _ (by decide), sI_cell _ _ _ _ _ (by decide), a4], by rw [sI_k _ _ _ _ _ (by decide), sI_cell _ _ _ _ _ (by decide), a5], ⟨c, c1, by rw [sI_k _ _ _ _ _ (by decide), sI_cell _ _ _ _ _ (by decide), c2]⟩, ⟨n + 1, by omega, by omega, sI_same _ _ _ _⟩, t, t1, by rw [sI_k _ _ _ _ _ (by decide), sI_cell _ _ _ _ _ (by decide), t2]⟩
  obtain ⟨v', e, a, f'⟩ := next_F h2
  rw [e, q_b_some]
  refine ⟨v', h20_F a b o, a, frR1_t (frR1_0 s v 12 _ (by omega)) (frR1_t (frR1_20 s _ _ _) (frR1_t (frR1_0 s _ 38 _ (by omega)) f'))⟩
theorem unit_int {P T s t d : Nat} {nl : List (List Nat)} {sl : Nat → Nat} {L1 L2 : Nat × Int32} {ws : List Int32} {cs : List Tr} {W : List Nat} {u v : q_W} (E : EC T s nl sl u v) (hC : PC P t L1 ws u) (hR : PR s t L2 cs W d v) (ht : t ≤ T) (hw : ws.length ≤ 3 * t + 30) (hc : cs.length ≤ 2 * t + 30) (hW : W.length ≤ 3 * d + 3) (hd : d ≤ 6) (N9 M o : Nat) (b : Int32) (rU rS : Int32 → q_W → Option (Unit × q_W)) (h2 : u.1 26 t = km 2) (h3 : v.1 3 t = nI 2) (hp : v.1 4 t = u.1 27 t) {y : Nat} (hy : y < 10000) (hy1 : u.2.2 28 t = lN y) (hy2 : v.1 5 t = nI y) : XOK P T s t d L1 L2 ws cs W nl sl u v [] 0 (bU d) 0 N9 (fun K N M w => Y31k K N M b (nI o) w) (fun t' => t < t') (fX5_readUnit rU rS (nI d) u) (X20 N9 (M + 1) b (nI o) v) ∨ XF P s u v (fX5_readUnit rU rS (nI d) u) (X20 N9 (M + 1) b (nI o) v) := by
  have hT := E.1.1
  have hr2 : rOK 2 := Or.inl (by omega)
  obtain ⟨u1, e1, a1, b1⟩ := add2_st hC (by omega) 2 (nI y)
  obtain ⟨v1, e2, a2, b2⟩ := emit_st hR (by omega) ((0, nI y, 0) : Tr)
  have e2 : fX11_emit 0 (nI y) 0 v = some ((), v1) := e2
  have k1 : u1.1 26 t = 2 := by rw [b1.1 26 (by decide) (by rcases hC.1 with e | e <;> omega) (by rcases hC.1 with e | e <;> omega), h2]; rfl
  have i6 : fX11_is 6 v = some (0, v) := isR hR (by omega) h3 hr2 6 (by decide)
  have i9 : fX11_is 9 v = some (0, v) := isR hR (by omega) h3 hr2 9 (by decide)
  have i2 : fX11_is 2 v = some (1, v) := isR hR (by omega) h3 hr2 2 (by decide)
  have hsay : fX7_saysAt (nI t) u = some (lN y, u) := by
    unfold fX7_saysAt
    rw [if_neg (nI_pos (by omega)), if_neg (by rw [show (501 : Int32) = nI 501 from rfl, nI_leI (by omega) (by omega)]; omega), if_pos (q_inb_nI (by omega) (by omega)), q_ix_nI (by omega), hy1]
  have cu0 : fX5_readUnit rU rS (nI d) u = q_b (fX5_take 2 u1) fun r6 w7 => some ((), w7) := by
    unfold fX5_readUnit
    rw [hC.2.2.2.1, h2, if_pos (show km 2 = 2 from rfl), hC.2.1, if_pos (isP_c hC.1), hC.2.2.1, hsay, q_b_some, lN_i, e1, q_b_some]
  have ru0 : fX11_unit v = q_b (fX11_next v1) fun r11 w12 => some ((), w12) := by
    unfold fX11_unit
    rw [i2, q_b_some, if_neg i_10, hR.2.1, q_lt_eq, if_pos (q_inb_nI (by omega) (by omega)), q_ix_nI (by omega), hy2, e2, q_b_some]
  unfold X20
  rw [cu0, q_itS, fX11_expression_h20, i6, q_b_some, if_pos rfl, i9, q_b_some, if_pos rfl, ru0]
  by_cases h5 : t = 500
  · subst h5
    obtain ⟨u2, e3, a3, b3⟩ := take_room a1 k1
    obtain ⟨v2, e4, a4, b4⟩ := next_room a2 40 (by omega) (by omega) (by rw [List.length_append]; show cs.length + 1 + _ ≤ _; omega)
    rw [e3, q_b_some, e4, q_b_some, q_b_some, a4.2.2.2.1, if_neg (by decide)]
    refine Or.inr ⟨2, _, u2, v2, 40, rfl, a3, frP1_t b1 b3, rfl, ?_, frR1_t b2 b4⟩
    have : u1.1 27 500 = v1.1 4 500 := by rw [b1.1 27 (by decide) (by rcases hC.1 with e | e <;> omega) (by rcases hC.1 with e | e <;> omega), b2.1 4 (by decide) (by decide) (by decide) (by decide) (by decide), hp]
    rw [this]; exact a4
  · obtain ⟨u2, e3, a3, b3⟩ := take_st a1 (by omega) k1
    obtain ⟨v2, e4, a4, b4⟩ := next_st a2 (by omega)
    obtain ⟨r, q1, q2, q3, q4, q5, q6, q7⟩ := tkn E ht
    clear q5 q6
    have : r = 2 := by
      unfold rOK at q1
      have e := q2.symm.trans h3
      exact (nI_eq (by omega) (by omega)).mp e
    subst this
    have hlt := q7 (by decide) (by decide) (by omega)
    rw [e3, q_b_some, e4, q_b_some, q_b_some, a4.2.2.1, if_pos (by decide)]
    refine Or.inl ⟨u2, t + 1, [([2, nI y], 0, nI y, 0)], [], v2, q_N, N9, q_N, rfl, ?_, frP1_t b1 b3, by omega, by omega, okNs_nil, rfl, ?_, frR1_t b2 b4, by omega, by omega, by omega, ?_, ?_, fun _ _ x hx => ?_, fun h hh => ?_, Nat.lt_succ_self t⟩
    · exact a3
    · rw [List.append_nil]; exact a4
    · show 2 + 0 ≤ _; omega
    · show 1 + 0 ≤ _; omega
    · exact Or.inl ⟨nI y, List.mem_singleton.mp hx⟩
    · exact HG_one rfl (by unfold bU at hh; omega)
