/-! read: the whole -/
theorem byte255 (x : Int32) : vp_nar .byte x &&& 255 = x &&& 255 := by
  show x.toInt8.toInt32 &&& 255 = x &&& 255
  apply Int32.toBitVec_inj.mp
  rw [Int32.toBitVec_and, Int32.toBitVec_and]
  show BitVec.signExtend 32 (BitVec.signExtend 8 x.toBitVec) &&& 255#32 = x.toBitVec &&& 255#32
  ext i hi
  simp only [BitVec.getElem_and]
  by_cases h : i < 8
  · rw [BitVec.getElem_signExtend, dif_pos h, BitVec.getElem_signExtend, dif_pos (by omega)]
  · have : (255#32)[i] = false := by
      rw [BitVec.getElem_eq_testBit_toNat]
      have : ∀ j, j < 32 → ¬ j < 8 → Nat.testBit 255 j = false := by decide
      exact this i hi h
    rw [this, Bool.and_false, Bool.and_false]
theorem low255 (x : Int32) : ∃ B, B < 256 ∧ x &&& 255 = nI B := by
  refine ⟨x.toBitVec.toNat % 256, Nat.mod_lt _ (by decide), ?_⟩
  apply Int32.toBitVec_inj.mp
  apply BitVec.eq_of_toNat_eq
  rw [Int32.toBitVec_and, BitVec.toNat_and]
  show x.toBitVec.toNat &&& 255 = (BitVec.ofNat 32 (x.toBitVec.toNat % 256)).toNat
  rw [BitVec.toNat_ofNat, show (255 : Nat) = 2 ^ 8 - 1 from rfl, Nat.and_two_pow_sub_one_eq_mod, Nat.mod_eq_of_lt (show x.toBitVec.toNat % 256 < 2 ^ 32 by have := Nat.mod_lt x.toBitVec.toNat (show 256 > 0 by decide); omega)]
/-- the reference copies its tape -/
theorem copy_lok {n : Nat} (hn : n ≤ 2000) : ∀ d N k (v : q_W), k + d = n → d < N → v.1 0 4 = nI n → ∃ v', q_it N fX11_read_h10 (fun _ _ => none) (nI k) v = (q_lt (q_sI v' 0 2 0) fun w1 => q_b (fX11_cut w1) fun _ w3 => q_lt (q_sI w3 0 11 0) fun w4 => q_lt (q_sI w4 0 12 0) fun w5 => q_lt (q_sI w5 0 38 0) fun w6 => q_lt (q_sI w6 0 13 0) fun w7 => q_lt (q_sI w7 0 15 0) fun w8 => q_lt (q_sI w8 0 19 (1 - (w8.1 0 18))) fun w9 => q_lt (w9.1 0 19) fun y10 => if q_inb y10 2 then q_lt (q_sI w9 8 (q_ix y10) 0) fun w11 => q_lt (q_sI w11 0 24 (2000 * (w11.1 0 19))) fun w12 => fX11_read_l102 w12 else none) ∧ (∀ q, q ≠ 2 → v'.1 q = v.1 q) ∧ v'.2 = v.2 ∧ (∀ i, k ≤ i → i < n → v'.1 2 i = vp_nar .byte (v.1 1 i)) ∧ ∀ i, i < k → v'.1 2 i = v.1 2 i := by
  intro d
  induction d with
  | zero =>
    intro N k v hk hN h4
    obtain ⟨N, rfl⟩ : ∃ M, N = M + 1 := ⟨N - 1, by omega⟩
    rw [q_itS, fX11_read_h10, h4, if_pos (by rw [nI_leI (by omega) (by omega)]; omega)]
    exact ⟨v, rfl, fun _ _ => rfl, rfl, fun i a b => by omega, fun _ _ => rfl⟩
  | succ d ih =>
    intro N k v hk hN h4
    obtain ⟨N, rfl⟩ : ∃ M, N = M + 1 := ⟨N - 1, by omega⟩
    have ib : q_inb (nI k) 2000 := q_inb_nI (by omega) (by omega)
    rw [q_itS, fX11_read_h10, h4, if_neg (by rw [nI_leI (by omega) (by omega)]; omega), if_pos ib, if_pos ib, q_lt_eq, q_lt_eq, nI_1, q_ix_nI (by omega)]
    obtain ⟨v', e, a1, a2, a3, a4⟩ := ih N (k + 1) (q_sI v 2 k (vp_nar .byte (v.1 1 k))) (by omega) (by omega) (by rw [sI_cell _ _ _ _ 0 (by decide), h4])
    refine ⟨v', e, fun q hq => by rw [a1 q hq, sI_cell _ _ _ _ _ hq], by rw [a2]; rfl, fun i h1 h2 => ?_, fun i hi => ?_⟩
    · by_cases ei : i = k
      · subst ei
        rw [a4 i (by omega), sI_same]
      · rw [a3 i (by omega) h2, sI_cell _ _ _ _ 1 (by decide)]
    · rw [a4 i (by omega), sI_k _ _ _ _ _ (by omega)]
def I_prog (u v : q_W) : Prop := ∃ s, s < 2 ∧ u.2.1 0 7 = 43 + 4 * s ∧ u.2.1 0 8 = 43 + 4 * (1 - s) ∧ v.1 0 18 = nI s ∧ PGW (43 + 4 * s) s u v
def rdC (u u' : q_W) : Prop := (∀ q, q ≠ 0 → q ≠ 1 → q ≠ 23 → q ≠ 24 → q ≠ 26 → q ≠ 27 → ¬ (43 ≤ q ∧ q ≤ 50) → u'.1 q = u.1 q) ∧ (∀ k, k ≠ 12 → u'.1 0 k = u.1 0 k) ∧ (∀ q k, ¬ (q = 0 ∧ (k = 7 ∨ k = 8)) → ¬ (q = 23 ∧ k = 11) → u'.2.1 q k = u.2.1 q k) ∧ ∀ q, q ≠ 24 → q ≠ 28 → q ≠ 29 → q ≠ 30 → u'.2.2 q = u.2.2 q
def rdR (v v' : q_W) : Prop := (∀ q, q ≠ 0 → q ≠ 2 → q ≠ 3 → q ≠ 4 → q ≠ 5 → q ≠ 8 → ¬ (10 ≤ q ∧ q ≤ 14) → ¬ (16 ≤ q ∧ q ≤ 20) → v'.1 q = v.1 q) ∧ (∀ k, k ≠ 2 → k ≠ 4 → ¬ (10 ≤ k ∧ k ≤ 19) → k ≠ 24 → k ≠ 28 → k ≠ 30 → k ≠ 35 → k ≠ 36 → k ≠ 38 → v'.1 0 k = v.1 0 k) ∧ v'.2.1 = v.2.1 ∧ ∀ q, q ≠ 6 → q ≠ 9 → q ≠ 15 → v'.2.2 q = v.2.2 q
theorem PGW_keep {P s : Nat} {u v u' v' : q_W} (h : PGW P s u v) (hs : s < 2) (a0 : u'.1 P = u.1 P) (a1 : u'.1 (P + 1) = u.1 (P + 1)) (a2 : u'.1 (P + 2) = u.1 (P + 2)) (a3 : u'.1 (P + 3) = u.1 (P + 3)) (b8 : v'.1 8 s = v.1 8 s) (b12 : ∀ i, 2000 * s ≤ i → i < 2000 * s + 2000 → v'.1 12 i = v.1 12 i ∧ v'.1 13 i = v.1 13 i ∧ v'.1 14 i = v.1 14 i) (b10 : ∀ i, 8 * s ≤ i → i < 8 * s + 8 → v'.1 10 i = v.1 10 i ∧ v'.1 11 i = v.1 11 i) : PGW P s u' v' := by
  obtain ⟨n, pm, fo, fr, pg, ws, cs, h1, h2, h3, h4, h5, h6, h7, h8, h9, h10⟩ := h
  refine ⟨n, pm, fo, fr, pg, ws, cs, h1, h2, by rw [a0, h3], by rw [b8, h4], by rw [a0, h5], h6, fun i hi => by rw [a1, h7 i hi], h8, fun i hi => ?_, fun i hi => ?_⟩
  · obtain ⟨x, y, z⟩ := b12 (2000 * s + i) (by omega) (by omega)
    rw [x, y, z]
    exact h9 i hi
  · obtain ⟨x, y⟩ := b10 (8 * s + i) (by omega) (by omega)
    rw [a2, a3, x, y]
    exact h10 i hi
theorem sim_read {n : Nat} {u v : q_W} (ht : I_tape n u v) (hw : wordsC u) (hk : keysR v) (hp : I_prog u v) : ∃ r u1 v1, fX10_read u = some (r, u1) ∧ fX11_read v = some (r, v1) ∧ I_tape 0 u1 v1 ∧ wordsC u1 ∧ keysR v1 ∧ I_prog u1 v1 ∧ u1.1 0 12 = v1.1 0 17 ∧ rdC u u1 ∧ rdR v v1 := by
  obtain ⟨s, hs, p7, p8, p18, pw⟩ := hp
  obtain ⟨t1, t2, t3, t4⟩ := ht
  have hNb : q_N = 4000000000 := rfl
  -- the spare program and side
  generalize hP : 43 + 4 * (1 - s) = P at *
  have iP : isP P := by
    unfold isP
    omega
  have hne := isP_ne iP
  have n24 : P ≠ 24 ∧ P + 1 ≠ 24 := by rcases iP with e | e <;> omega
  -- the reference up to its text
  obtain ⟨v2, c1, c2, c3, c4, c5⟩ := copy_lok t1 n q_N 0 (q_sI v 0 4 (v.1 0 2)) (by omega) (by omega) (by rw [sI_same, t3])
  have v20 : ∀ k, k ≠ 4 → v2.1 0 k = v.1 0 k := fun k hk => by rw [c2 0 (by decide), sI_k _ _ _ _ _ hk]
  have v2q : ∀ q, q ≠ 0 → q ≠ 2 → v2.1 q = v.1 q := fun q h1 h2 => by rw [c2 q h2, sI_cell _ _ _ _ _ h1]
  have v2L : v2.2 = v.2 := by rw [c3]; rfl
  -- the class up to its text
  generalize hu1 : q_sI (q_sI (q_sI (q_sI (q_sR u 23 11 P) P 3 0) P 4 0) 23 7 0) 23 9 0 = u1
  have u1q : ∀ q, q ≠ 23 → q ≠ P → u1.1 q = u.1 q := fun q h1 h2 => by
    rw [← hu1, sI_cell _ _ _ _ _ h1, sI_cell _ _ _ _ _ h1, sI_cell _ _ _ _ _ h2, sI_cell _ _ _ _ _ h2]
    rfl
  have u1L : u1.2.2 = u.2.2 := by rw [← hu1]; rfl
  have u1R : u1.2.1 23 11 = P := by
    rw [← hu1]
    show (if 23 = 23 ∧ 11 = 11 then P else u.2.1 23 11) = P
    simp
  have u1R' : ∀ q k, ¬ (q = 23 ∧ k = 11) → u1.2.1 q k = u.2.1 q k := fun q k h => by
    rw [← hu1]
    show (if q = 23 ∧ k = 11 then P else u.2.1 q k) = _
    rw [if_neg h]
  -- the bytes
  have hB : ∃ B : Nat → Nat, ∀ i, B i < 256 ∧ v.1 1 i &&& 255 = nI (B i) := by
    refine ⟨fun i => Classical.choose (low255 (v.1 1 i)), fun i => ?_⟩
    exact Classical.choose_spec (low255 (v.1 1 i))
  obtain ⟨B, hB⟩ := hB
  have TC : TXC n B u1 := ⟨by rw [u1q 1 (by decide) (by rcases iP with e | e <;> omega), t2], t1, fun i hi => by
    rw [u1q 2 (by decide) (by rcases iP with e | e <;> omega), t4 i hi]
    exact ⟨(hB i).2, (hB i).1⟩⟩
  have TR : TXR n B (q_sI v2 0 2 0) := ⟨by rw [sI_k _ _ _ _ _ (by decide), c2 0 (by decide), sI_same, t3], t1, fun i hi => by
    rw [sI_cell _ _ _ _ 2 (by decide), c4 i (Nat.zero_le _) hi, byte255, sI_cell _ _ _ _ 1 (by decide)]
    exact ⟨(hB i).2, (hB i).1⟩⟩
  have W1 : wordsC u1 := by unfold wordsC at *; rw [u1L]; exact hw
  have K1 : keysR (q_sI v2 0 2 0) := by
    unfold keysR at *
    show ∀ k, k < 15 → v2.2.2 7 k = _
    rw [v2L]; exact hk
  obtain ⟨u3, v3, T, e1, e2, f1, f2, hto⟩ := scan_both TC TR W1 K1
  have hT := hto.1
  -- both at the first token
  generalize hu4 : q_sI (q_sI (q_sI u3 23 4 0) 23 5 (u3.1 26 0)) 23 6 (u3.1 27 0) = u4
  generalize hs' : 1 - s = s' at *
  have hs2 : s' < 2 := by omega
  have v318 : v3.1 0 18 = nI s := by rw [f2.2.1 18 (by decide), sI_k _ _ _ _ _ (by decide), v20 18 (by decide), p18]
  have e19 : (1 : Int32) - nI s = nI s' := by
    have : s = 0 ∨ s = 1 := by omega
    rcases this with rfl | rfl
    · subst hs'; decide
    · subst hs'; decide
  generalize hv4 : q_sI (q_sI (q_sI (q_sI (q_sI (q_sI (q_sI (q_sI v3 0 11 0) 0 12 0) 0 38 0) 0 13 0) 0 15 0) 0 19 (nI s')) 8 s' 0) 0 24 (nI (2000 * s')) = v4
  have hrr : fX11_read v = fX11_read_l102 v4 := by
    have i8 : q_inb (nI s') 2 := q_inb_nI hs2 (by omega)
    unfold fX11_read fX11_read_l10
    rw [q_lt_eq, show (0 : Int32) = nI 0 from rfl, c1, q_lt_eq]
    rw [e2, q_b_some, q_lt_eq, q_lt_eq, q_lt_eq, q_lt_eq, q_lt_eq, q_lt_eq, sI_k _ _ _ _ _ (show 18 ≠ 15 by decide), sI_k _ _ _ _ _ (show 18 ≠ 13 by decide), sI_k _ _ _ _ _ (show 18 ≠ 38 by decide), sI_k _ _ _ _ _ (show 18 ≠ 12 by decide), sI_k _ _ _ _ _ (show 18 ≠ 11 by decide), v318, e19, q_lt_eq, sI_same, if_pos i8, q_lt_eq, q_lt_eq, sI_cell _ _ _ _ 0 (by decide), sI_same, show (2000 : Int32) = nI 2000 from rfl, pk_mul, q_ix_nI (show s' < 2 ^ 31 by omega)]
    rw [← hv4]
  have hcc : fX5_readInto P u = q_it q_N (fX5_readInto_h61 P) (fun _ _ => none) (nI 0) u4 := by
    unfold fX5_readInto fX4_clear fX7_kindAt fX7_startAt
    have z0 : ¬ (0 : Int32) < 0 := by decide
    have z5 : ¬ (501 : Int32) ≤ 0 := by decide
    have zi : q_inb 0 501 := q_inb_nI (n := 0) (by omega) (by omega)
    have zx : q_ix (0 : Int32) = 0 := q_ix_nI (n := 0) (by omega)
    have r1 : (q_sR u 23 11 P).2.1 23 11 = P := by
      show (if 23 = 23 ∧ 11 = 11 then P else u.2.1 23 11) = P
      simp
    rw [if_pos (isP_c iP), q_lt_eq, r1, if_pos (isP_c iP), if_pos (isP_c iP), q_lt_eq, q_lt_eq, q_b_some, q_lt_eq, q_lt_eq, hu1, e1, q_b_some, q_lt_eq, if_neg z0, if_neg z5, if_pos zi, q_b_some, q_lt_eq, if_neg z0, if_neg z5, if_pos zi, q_b_some, q_lt_eq, zx, sI_cell _ _ _ _ 26 (by decide), sI_cell _ _ _ _ 27 (by decide), sI_cell _ _ _ _ 27 (by decide), hu4]
    rfl
  have u4q : ∀ q, q ≠ 23 → u4.1 q = u3.1 q := fun q h => by rw [← hu4, sI_cell _ _ _ _ _ h, sI_cell _ _ _ _ _ h, sI_cell _ _ _ _ _ h]
  have u4k : ∀ k, ¬ (4 ≤ k ∧ k ≤ 6) → u4.1 23 k = u3.1 23 k := fun k h => by rw [← hu4, sI_k _ _ _ _ _ (by omega), sI_k _ _ _ _ _ (by omega), sI_k _ _ _ _ _ (by omega)]
  have u4L : u4.2 = u3.2 := by rw [← hu4]; rfl
  have u37 : u3.1 23 7 = 0 := by rw [f1.1 23 (by decide) (by decide) (by decide), ← hu1, sI_k _ _ _ _ _ (by decide), sI_same]
  have u39 : u3.1 23 9 = 0 := by rw [f1.1 23 (by decide) (by decide) (by decide), ← hu1, sI_same]
  have uP3 : u3.1 P 3 = 0 := by rw [f1.1 P n24.1 hne.2.2.1 hne.2.2.2.1, ← hu1, sI_cell _ _ _ _ P hne.1, sI_cell _ _ _ _ P hne.1, sI_k _ _ _ _ _ (by decide), sI_same]
  have uP4 : u3.1 P 4 = 0 := by rw [f1.1 P n24.1 hne.2.2.1 hne.2.2.2.1, ← hu1, sI_cell _ _ _ _ P hne.1, sI_cell _ _ _ _ P hne.1, sI_same]
  have v4q : ∀ q, q ≠ 0 → q ≠ 8 → v4.1 q = v3.1 q := fun q h1 h2 => by
    rw [← hv4, sI_cell _ _ _ _ _ h1, sI_cell _ _ _ _ _ h2, sI_cell _ _ _ _ _ h1, sI_cell _ _ _ _ _ h1, sI_cell _ _ _ _ _ h1, sI_cell _ _ _ _ _ h1, sI_cell _ _ _ _ _ h1, sI_cell _ _ _ _ _ h1]
  have v4L : v4.2 = v3.2 := by rw [← hv4]; rfl
  have v48 : ∀ i, v4.1 8 i = if i = s' then 0 else v3.1 8 i := fun i => by
    rw [← hv4, sI_cell _ _ _ _ 8 (by decide), sI_if, sI_cell _ _ _ _ 8 (by decide), sI_cell _ _ _ _ 8 (by decide), sI_cell _ _ _ _ 8 (by decide), sI_cell _ _ _ _ 8 (by decide), sI_cell _ _ _ _ 8 (by decide), sI_cell _ _ _ _ 8 (by decide)]
  have v40 : ∀ k, v4.1 0 k = if k = 24 then nI (2000 * s') else if k = 19 then nI s' else if k = 15 then 0 else if k = 13 then 0 else if k = 38 then 0 else if k = 12 then 0 else if k = 11 then 0 else v3.1 0 k := fun k => by
    rw [← hv4, sI_if, sI_cell _ _ _ _ 0 (by decide), sI_if, sI_if, sI_if, sI_if, sI_if, sI_if]
  have X : TX P T s' 0 (adN [] (0, 0)) (adN [] (0, 0)) [] [] [] (fun _ => 0) (fun _ => 0) (fun _ => 0) (fun _ => []) [] u4 v4 := by
    refine ⟨toks_of hto (u4q 26 (by decide)) (u4q 27 (by decide)) (by rw [u4L]) (v4q 3 (by decide) (by decide)) (v4q 4 (by decide) (by decide)) (v4q 5 (by decide) (by decide)) (by rw [v4L]), ⟨iP, hs2, by rw [u4L, f1.2.1, u1R], by decide, by rw [u4q P hne.1, uP4]; rfl, by rw [v48, if_pos rfl]; rfl, by rw [v40, if_neg (by decide), if_pos rfl], fun i hi => absurd hi (Nat.not_lt_zero i)⟩, ⟨iP, by rw [u4L, f1.2.1, u1R], by rw [← hu4, sI_k _ _ _ _ _ (by decide), sI_k _ _ _ _ _ (by decide), sI_same]; rfl, by rw [u4q 26 (by decide), ← hu4, sI_k _ _ _ _ _ (by decide), sI_same], by rw [u4q 27 (by decide), ← hu4, sI_same], by rw [u4k 7 (by omega), u37], by rw [u4k 9 (by omega), u39]; rfl, by show 0 ≤ 5; omega, fun c => absurd rfl c, by rw [u4q P hne.1, uP3]; rfl, fun i hi => absurd hi (Nat.not_lt_zero i)⟩, ⟨hs2, by rw [v40]; rfl, by rw [v40]; rfl, by rw [v40]; rfl, fun c => absurd rfl c, ⟨by rw [v40]; rfl, fun i hi => absurd hi (Nat.not_lt_zero i)⟩, ⟨by rw [v40]; rfl, by decide, fun i hi => absurd hi (Nat.not_lt_zero i)⟩, by rw [v40]; rfl⟩, by show 0 ≤ 5; omega, Nat.zero_le _, Nat.le_refl _, Nat.le_refl _, fun i hi => absurd hi (Nat.not_lt_zero i), fun _ i hi => absurd hi (Nat.not_lt_zero i)⟩
  obtain ⟨f, p, u5, v5, g1, g2, g3, g4, g5, g6, g7⟩ := rd_lok (x1 := 0) (x2 := 0) (T + 1) 0 q_N q_N 0 _ _ _ _ _ _ _ _ u4 v4 (by omega) X okNs_nil (Nat.le_refl _) (by omega) (by omega)
  -- what else of the class is as it was
  have uq : ∀ q, q ≠ 23 → q ≠ 24 → q ≠ 26 → q ≠ 27 → q ≠ P → q ≠ P + 1 → q ≠ P + 2 → q ≠ P + 3 → u5.1 q = u.1 q := fun q a b c d e f' g h => by
    rw [g4.1 q a e f' g h, u4q q a, f1.1 q b c d, u1q q a e]
  have uR : ∀ q k, ¬ (q = 23 ∧ k = 11) → u5.2.1 q k = u.2.1 q k := fun q k h => by rw [g4.2.1, u4L, f1.2.1, u1R' q k h]
  have uL : ∀ q, q ≠ 24 → q ≠ 28 → q ≠ 29 → q ≠ 30 → u5.2.2 q = u.2.2 q := fun q a b c d => by rw [g4.2.2 q c d, u4L, f1.2.2 q a b, u1L]
  have vq : ∀ q, q ≠ 0 → q ≠ 2 → q ≠ 3 → q ≠ 4 → q ≠ 5 → q ≠ 8 → ¬ (10 ≤ q ∧ q ≤ 14) → ¬ (16 ≤ q ∧ q ≤ 20) → v5.1 q = v.1 q := fun q a b c d e f' g h => by
    rw [g5.1 q a f' (by omega) (by omega) (by omega) (by omega) (by omega) (by omega) (by omega) (by omega) (by omega) (by omega), v4q q a f', f2.1 q a c d e, sI_cell _ _ _ _ _ a, v2q q a b]
  have v4k : ∀ k, k ≠ 2 → k ≠ 4 → ¬ (10 ≤ k ∧ k ≤ 13) → k ≠ 15 → k ≠ 19 → k ≠ 24 → k ≠ 38 → v4.1 0 k = v.1 0 k := fun k a b c d e f' g => by
    rw [v40, if_neg f', if_neg e, if_neg d, if_neg (by omega), if_neg g, if_neg (by omega), if_neg (by omega), f2.2.1 k (by omega), sI_k _ _ _ _ _ a, v20 k b]
  have vk : ∀ k, k ≠ 2 → k ≠ 4 → ¬ (10 ≤ k ∧ k ≤ 19) → k ≠ 24 → k ≠ 28 → k ≠ 30 → k ≠ 35 → k ≠ 36 → k ≠ 38 → v5.1 0 k = v.1 0 k := fun k a b c d e f' g h i => by
    rw [g5.2.1 k (by omega) d e f' g h i, v4k k a b (by omega) (by omega) (by omega) d i]
  have vR : v5.2.1 = v.2.1 := by rw [g5.2.2.2.2.2.1, v4L, f2.2.2.1]; show v2.2.1 = _; rw [v2L]
  have vL : ∀ q, q ≠ 6 → q ≠ 9 → q ≠ 15 → v5.2.2 q = v.2.2 q := fun q a b c => by
    rw [g5.2.2.2.2.2.2 q b c, v4L, f2.2.2.2 q a]; show v2.2.2 q = _; rw [v2L]
  have v52 : v5.1 0 2 = 0 := by
    rw [g5.2.1 2 (by omega) (by omega) (by omega) (by omega) (by omega) (by omega) (by omega), v40, if_neg (by decide), if_neg (by decide), if_neg (by decide), if_neg (by decide), if_neg (by decide), if_neg (by decide), if_neg (by decide), f2.2.1 2 (by decide), sI_same]
  have v5_18 : f ≠ 0 → v5.1 0 18 = nI s := fun c => by
    rw [(g6 c).2.2, v4k 18 (by omega) (by omega) (by omega) (by omega) (by omega) (by omega) (by omega), p18]
  -- the class behind its text
  have hP01 : P ≠ 0 ∧ P ≠ 1 := by rcases iP with e | e <;> omega
  have u511 : u5.1 1 1 = nI n := by rw [uq 1 (by decide) (by decide) (by decide) (by decide) (by omega) (by omega) (by rcases iP with e | e <;> omega) (by rcases iP with e | e <;> omega), t2]
  have r7 : u5.2.1 0 7 = 43 + 4 * s := by rw [uR 0 7 (by omega), p7]
  have r8 : u5.2.1 0 8 = P := by rw [uR 0 8 (by omega), p8]
  have hI : I_tape 0 (q_sI u5 1 1 0) v5 := ⟨Nat.zero_le _, sI_same _ _ _ _, v52, fun i hi => absurd hi (Nat.not_lt_zero i)⟩
  have n57 : ∀ (x : Int32) (w : q_W), w.1 1 1 = nI n → fX10_read_n57 x w = some (x, q_sI w 1 1 0) := by
    intro x w hw1
    unfold fX10_read_n57 fX9_size fX9_cut
    rw [hw1, q_b_some, if_neg (nI_pos (by omega)), hw1, if_pos (by rw [nI_leI (by omega) (by omega)]; omega), q_lt_eq, q_b_some, show nI n - nI n = 0 from Int32.sub_self _]
  have hread : fX10_read u = q_b (some (nI f, u5)) fun r2 w3 => if r2 = 0 then fX10_read_n32 r2 (-1) w3 else q_b (fX5_placeOfFault w3) fun r4 w5 => fX10_read_n32 r2 r4 w5 := by
    unfold fX10_read
    rw [p8, if_pos (isP_c iP), hcc, g1]
  rw [hread, q_b_some, hrr, show fX11_read_l102 v4 = some (nI f, v5) from g2]
  have wC : ∀ w : q_W, w.2.2 = u5.2.2 → wordsC w := fun w hw2 => by
    unfold wordsC at *
    rw [hw2, uL 25 (by decide) (by decide) (by decide) (by decide)]
    exact hw
  have kR : keysR v5 := by
    unfold keysR at *
    rw [vL 7 (by decide) (by decide) (by decide)]
    exact hk
  have hrdR : rdR v v5 := ⟨vq, vk, vR, vL⟩
  by_cases c0 : f = 0
  · subst c0
    obtain ⟨z1, z2, z3⟩ := g7 rfl
    have n32 : fX10_read_n32 (nI 0) (-1) u5 = some (nI 0, q_sI (q_sR (q_sR (q_sI u5 0 12 (-1)) 0 7 P) 0 8 (43 + 4 * s)) 1 1 0) := by
      unfold fX10_read_n32
      have c43 : cC (43 + 4 * s) = 4 := isP_c (by unfold isP; omega)
      rw [q_lt_eq, if_pos (show nI 0 = 0 from rfl), show (q_sI u5 0 12 (-1)).2.1 0 7 = 43 + 4 * s from r7, show (q_sI u5 0 12 (-1)).2.1 0 8 = P from r8, if_pos c43, if_pos (isP_c iP), q_lt_eq, q_lt_eq]
      refine n57 _ _ ?_
      show (q_sI u5 0 12 (-1)).1 1 1 = nI n
      rw [sI_cell _ _ _ _ 1 (by decide), u511]
    rw [if_pos (show nI 0 = 0 from rfl), n32]
    refine ⟨nI 0, _, v5, rfl, rfl, ⟨Nat.zero_le _, sI_same _ _ _ _, v52, fun i hi => absurd hi (Nat.not_lt_zero i)⟩, wC _ rfl, kR, ⟨s', hs2, ?_, ?_, z2, ?_⟩, ?_, ⟨fun q a b c d e f' g => ?_, fun k hk => ?_, fun q k a b => ?_, uL⟩, hrdR⟩
    · show (if 0 = 0 ∧ 7 = 8 then 43 + 4 * s else if 0 = 0 ∧ 7 = 7 then P else u5.2.1 0 7) = 43 + 4 * s'
      simp
      exact hP.symm
    · show (if 0 = 0 ∧ 8 = 8 then 43 + 4 * s else if 0 = 0 ∧ 8 = 7 then P else u5.2.1 0 8) = 43 + 4 * (1 - s')
      simp
      omega
    · rw [hP]
      refine PGW_keep z3 hs2 ?_ ?_ ?_ ?_ rfl (fun _ _ _ => ⟨rfl, rfl, rfl⟩) (fun _ _ _ => ⟨rfl, rfl⟩)
      · rw [sI_cell _ _ _ _ P hP01.2]
        show (q_sI u5 0 12 (-1)).1 P = _
        rw [sI_cell _ _ _ _ P hP01.1]
      · rw [sI_cell _ _ _ _ (P + 1) (by omega)]
        show (q_sI u5 0 12 (-1)).1 (P + 1) = _
        rw [sI_cell _ _ _ _ (P + 1) (by omega)]
      · rw [sI_cell _ _ _ _ (P + 2) (by omega)]
        show (q_sI u5 0 12 (-1)).1 (P + 2) = _
        rw [sI_cell _ _ _ _ (P + 2) (by omega)]
      · rw [sI_cell _ _ _ _ (P + 3) (by omega)]
        show (q_sI u5 0 12 (-1)).1 (P + 3) = _
        rw [sI_cell _ _ _ _ (P + 3) (by omega)]
    · rw [sI_cell _ _ _ _ 0 (by decide), z1]
      show (q_sI u5 0 12 (-1)).1 0 12 = -1
      rw [sI_same]
    · rw [sI_cell _ _ _ _ q b]
      show (q_sI u5 0 12 (-1)).1 q = _
      rw [sI_cell _ _ _ _ q a]
      exact uq q c d e f' (by omega) (by omega) (by omega) (by omega)
    · rw [sI_cell _ _ _ _ 0 (by decide)]
      show (q_sI u5 0 12 (-1)).1 0 k = _
      rw [sI_k _ _ _ _ _ hk, uq 0 (by decide) (by decide) (by decide) (by decide) (by omega) (by omega) (by omega) (by omega)]
    · show (if q = 0 ∧ k = 8 then 43 + 4 * s else if q = 0 ∧ k = 7 then P else u5.2.1 q k) = _
      rw [if_neg (by omega), if_neg (by omega), uR q k b]
  · obtain ⟨z1, z2, z3⟩ := g6 c0
    have nf : ¬ nI f = 0 := nI_ne0 (by omega) (by omega)
    have n32 : fX10_read_n32 (nI f) p u5 = some (nI f, q_sI (q_sI u5 0 12 p) 1 1 0) := by
      unfold fX10_read_n32
      rw [q_lt_eq, if_neg nf]
      exact n57 _ _ (by rw [sI_cell _ _ _ _ 1 (by decide), u511])
    rw [if_neg nf]
    unfold fX5_placeOfFault
    rw [q_b_some, z1, n32]
    refine ⟨nI f, _, v5, rfl, rfl, ⟨Nat.zero_le _, sI_same _ _ _ _, v52, fun i hi => absurd hi (Nat.not_lt_zero i)⟩, wC _ rfl, kR, ⟨s, hs, r7, by rw [hs', hP]; exact r8, v5_18 c0, ?_⟩, ?_, ⟨fun q a b c d e f' g => ?_, fun k hk => ?_, fun q k a b => uR q k b, uL⟩, hrdR⟩
    · have lv : ∀ q, q = 43 + 4 * s ∨ q = 43 + 4 * s + 1 ∨ q = 43 + 4 * s + 2 ∨ q = 43 + 4 * s + 3 → (q_sI (q_sI u5 0 12 p) 1 1 0).1 q = u.1 q := fun q hq => by
        rw [sI_cell _ _ _ _ q (by omega), sI_cell _ _ _ _ q (by omega), uq q (by omega) (by omega) (by omega) (by omega) (by omega) (by omega) (by omega) (by omega)]
      refine PGW_keep pw hs (lv _ (by omega)) (lv _ (by omega)) (lv _ (by omega)) (lv _ (by omega)) ?_ (fun i a b => ?_) (fun i a b => ?_)
      · rw [g5.2.2.2.1 s (by omega), v48, if_neg (by omega), f2.1 8 (by decide) (by decide) (by decide) (by decide), sI_cell _ _ _ _ 8 (by decide), v2q 8 (by decide) (by decide)]
      · obtain ⟨y1, y2, y3⟩ := g5.2.2.1 i (by omega)
        have k : ∀ q, q = 12 ∨ q = 13 ∨ q = 14 → v4.1 q = v.1 q := fun q hq => by rw [v4q q (by omega) (by omega), f2.1 q (by omega) (by omega) (by omega) (by omega), sI_cell _ _ _ _ q (by omega), v2q q (by omega) (by omega)]
        rw [y1, y2, y3, k 12 (by omega), k 13 (by omega), k 14 (by omega)]
        exact ⟨rfl, rfl, rfl⟩
      · obtain ⟨y1, y2, _⟩ := g5.2.2.2.2.1 i (by omega)
        have k : ∀ q, q = 10 ∨ q = 11 → v4.1 q = v.1 q := fun q hq => by rw [v4q q (by omega) (by omega), f2.1 q (by omega) (by omega) (by omega) (by omega), sI_cell _ _ _ _ q (by omega), v2q q (by omega) (by omega)]
        rw [y1, y2, k 10 (by omega), k 11 (by omega)]
        exact ⟨rfl, rfl⟩
    · rw [sI_cell _ _ _ _ 0 (by decide), sI_same, z2]
    · rw [sI_cell _ _ _ _ q b, sI_cell _ _ _ _ q a]
      exact uq q c d e f' (by omega) (by omega) (by omega) (by omega)
    · rw [sI_cell _ _ _ _ 0 (by decide), sI_k _ _ _ _ _ hk, uq 0 (by decide) (by decide) (by decide) (by decide) (by omega) (by omega) (by omega) (by omega)]
