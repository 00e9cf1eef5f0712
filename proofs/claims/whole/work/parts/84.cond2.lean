/-! conditions: the whole -/
/-- the codes behind a condition: the jumps to the block have landed -/
def cdL (s : Nat) (cs : List Tr) (rl : List Rl) : List Tr := landT (nI (2000 * s + (cdR s [] [] cs rl).1.length)) (cdR s [] [] cs rl).2.2 (cdR s [] [] cs rl).1
def CO (P T s t b : Nat) (L1 L2 : Nat × Int32) (ws : List Int32) (cs : List Tr) (nl : List (List Nat)) (sl : Nat → Nat) (u v : q_W) (cu rv : Option (Unit × q_W)) : Prop :=
  ∃ u' v' t' rl ns, cu = some ((), u') ∧ rv = some ((), v') ∧ okRl rl ∧ PC P t' (adN ns L1) (cdC none none ws rl) u' ∧ PR s t' (adN ns L2) (cdL s cs rl) [] 0 v' ∧ CHN s (cdL s cs rl) (cdR s [] [] cs rl).2.1 ∧ (cdR s [] [] cs rl).2.1.length ≤ (cdL s cs rl).length ∧ v'.1 16 b = 2 ∧ v'.1 17 b = hdC s (cdR s [] [] cs rl).2.1 ∧ v'.1 0 30 = nI (b + 1) ∧ (∀ i, i ≠ b → v'.1 16 i = v.1 16 i ∧ v'.1 17 i = v.1 17 i) ∧ frP1 P u u' ∧ frD s v v' ∧ t < t' ∧ t' ≤ T ∧ okNs ns ∧ (cdC none none ws rl).length ≤ ws.length + 2 * (t' - t) ∧ (cdL s cs rl).length ≤ cs.length + (t' - t) + 1 ∧ (ns = [] → ndp nl → ∀ r, r ∈ rl → ∀ x, x ∈ r.1 → gI nl.length sl x) ∧ ∀ r, r ∈ rl → HX r.1 2
theorem PR_q {s t op : Nat} {L : Nat × Int32} {cs : List Tr} {W : List Nat} {v : q_W} (h : PR s t L cs W op v) (q k : Nat) (x : Int32) (hq : 15 ≤ q ∧ q ≤ 19) : PR s t L cs W op (q_sI v q k x) := by
  obtain ⟨h1, h2, h3, h4, h5, h6, h7, h8⟩ := h
  refine ⟨h1, ?_, ?_, ?_, fun g => ?_, ⟨?_, fun j hj => ?_⟩, ⟨?_, h7.2.1, fun j hj => ?_⟩, ?_⟩
  · rw [sI_cell _ _ _ _ 0 (by omega), h2]
  · rw [sI_cell _ _ _ _ 0 (by omega), h3]
  · rw [sI_cell _ _ _ _ 0 (by omega), h4]
  · rw [sI_cell _ _ _ _ 0 (by omega), h5 g]
  · rw [sI_cell _ _ _ _ 0 (by omega), h6.1]
  · rw [sI_cell _ _ _ _ 12 (by omega), sI_cell _ _ _ _ 13 (by omega), sI_cell _ _ _ _ 14 (by omega)]
    exact h6.2 j hj
  · rw [sI_cell _ _ _ _ 0 (by omega), h7.1]
  · rw [sI_cell _ _ _ _ 20 (by omega), h7.2.2 j hj]
  · rw [sI_cell _ _ _ _ 0 (by omega), h8]
theorem cond_ok {P T s t b : Nat} {L1 L2 : Nat × Int32} {ws : List Int32} {cs : List Tr} {nl : List (List Nat)} {sl : Nat → Nat} {u v : q_W} (E : EC T s nl sl u v) (hC : PC P t L1 ws u) (hR : PR s t L2 cs [] 0 v) (hL : L2.1 ≤ 5) (ht : t ≤ T) (hw : ws.length ≤ 3 * t + 20) (hc : cs.length ≤ 2 * t + 20) (hb8 : b < 8) (hb : v.1 0 30 = nI b) : CO P T s t b L1 L2 ws cs nl sl u v (fX5_readCondition u) (fX11_tellIf v) ∨ XG P s u v (fX5_readCondition u) (fX11_tellIf v) := by
  have hT := E.1.1
  have hP := hC.1
  have hB : PB s t L2 cs [] [] (q_sI (q_sI v 0 36 (-1)) 0 35 (-1)) := ⟨PR_set (PR_set hR 36 _ (by omega)) 35 _ (by omega), sI_same _ _ _ _, by rw [sI_k _ _ _ _ _ (by decide), sI_same]; rfl, trivial, trivial, Nat.zero_le _, Nat.zero_le _⟩
  have hf : frC s v (q_sI (q_sI v 0 36 (-1)) 0 35 (-1)) := frC_t (frC_0 s _ 36 _ (by omega)) (frC_0 s _ 35 _ (by omega))
  unfold fX11_tellIf fX11_tellIf_l12 fX5_readCondition fX5_readCondition_l9
  rw [q_lt_eq, q_lt_eq, show (0 : Int32) = nI 0 from rfl]
  rcases cond_lok (b := b) hb8 501 q_N q_N none none 0 t L1 L2 ws cs [] [] u (q_sI (q_sI v 0 36 (-1)) 0 35 (-1)) (by omega) (Nat.le_of_ble_eq_true rfl) (Nat.le_of_ble_eq_true rfl) (EC_frC hP E (frP1_r P u) hf) hC hB hL ht hw hc (Nat.zero_le _) (fun i hi => by cases hi) (fun i hi => by cases hi) (by rw [hf.2.1 30 (by omega) (by omega) (by omega) (by omega) (by omega), hb]) with ⟨u1, v1, t1, rl, ns, e1, e2, k1, a1, B1, b1, b2, h1, h2, o1, w1, w2, g1⟩ | h
  · obtain ⟨R1, k5, k6, n5, n6, l5, l6⟩ := B1
    obtain ⟨v2, e3, a3, b3⟩ := lands_ok R1 (by omega) (by omega) n6
    have h30 : v2.1 0 30 = nI b := by rw [b3.2.1 30 (by omega) (by omega) (by omega), b2.2.1 30 (by omega) (by omega) (by omega) (by omega) (by omega), hf.2.1 30 (by omega) (by omega) (by omega) (by omega) (by omega), hb]
    have h35 : v2.1 0 35 = hdC s (cdR s [] [] cs rl).2.1 := by rw [b3.2.1 35 (by omega) (by omega) (by omega), k5]
    have fr : frC s v v2 := frC_t hf (frC_t b2 (frC_1 b3))
    have hll : (cdL s cs rl).length = (cdR s [] [] cs rl).1.length := landT_len _ _ _
    refine Or.inl ⟨u1, q_sI (q_sI (q_sI v2 16 b 2) 17 b (hdC s (cdR s [] [] cs rl).2.1)) 0 30 (nI (b + 1)), t1, rl, ns, e1, e2.trans ?_, k1, a1, PR_set (PR_q (PR_q a3 16 _ _ (by omega)) 17 _ _ (by omega)) 30 _ (by omega), CHN_land _ _ n6 n5, by rw [hll]; exact l5, ?_, ?_, sI_same _ _ _ _, fun i hi => ?_, b1, ?_, h1, h2, o1, w1, by rw [hll]; exact w2, g1⟩
    · unfold fX11_tellIf_n137
      rw [k6, e3, q_b_some, h30, q_lt_eq, if_pos (q_inb_nI hb8 (by omega)), q_lt_eq, q_lt_eq, sI_cell _ _ _ _ 0 (by decide), h30, if_pos (q_inb_nI hb8 (by omega)), q_lt_eq, q_lt_eq, sI_cell _ _ _ _ 0 (by decide), sI_cell _ _ _ _ 0 (by decide), h30, h35, nI_1, q_ix_nI (by omega)]
    · rw [sI_cell _ _ _ _ 16 (by decide), sI_cell _ _ _ _ 16 (by decide), sI_same]
    · rw [sI_cell _ _ _ _ 17 (by decide), sI_same]
    · rw [sI_cell _ _ _ _ 16 (by decide), sI_cell _ _ _ _ 16 (by decide), sI_k _ _ _ _ _ hi, sI_cell _ _ _ _ 17 (by decide), sI_k _ _ _ _ _ hi, sI_cell _ _ _ _ 17 (by decide), fr.1 16 (by decide) (by decide) (by decide) (by decide) (by decide), fr.1 17 (by decide) (by decide) (by decide) (by decide) (by decide)]
      exact ⟨rfl, rfl⟩
    · exact frD_t (frD_C fr) (frD_t (frD_q s _ 16 _ _ (by omega)) (frD_t (frD_q s _ 17 _ _ (by omega)) (frD_0 s _ 30 _ (by omega))))
  · exact Or.inr (XG_t (frP1_r P u) (frD_C hf) h)
