/-! the tape: feed, back -/
theorem q_itN {α : Type} (F : α → α) (b : α) : q_it q_N F b = F (q_it 3999999999 F b) := rfl
theorem bsh_aux (a : BitVec 32) (j : Nat) (h : j ≤ 24) : (a.sshiftRight j).signExtend 8 = (a >>> j).signExtend 8 := by
  apply BitVec.eq_of_getLsbD_eq
  intro i hi
  simp only [BitVec.getLsbD_signExtend, BitVec.getLsbD_sshiftRight, BitVec.getLsbD_ushiftRight]
  have h1 : i < 32 := by omega
  have h2 : j + i < 32 := by omega
  simp [h1, h2, hi]
theorem byte_shr (a : Int32) (k : Int32) (j : Nat) (h1 : k.toBitVec.smod 32 = BitVec.ofNat 32 j) (h2 : k.toUInt32.toBitVec % 32 = BitVec.ofNat 32 j) (h : j ≤ 24) : (a >>> k).toInt8 = ((a.toUInt32 >>> k.toUInt32).toInt32).toInt8 := by
  apply Int8.toBitVec_inj.mp
  have e1 : (a >>> k).toBitVec = a.toBitVec.sshiftRight j := by
    show a.toBitVec.sshiftRight' (k.toBitVec.smod 32) = _
    rw [h1]
    show a.toBitVec.sshiftRight (BitVec.ofNat 32 j).toNat = _
    rw [BitVec.toNat_ofNat, Nat.mod_eq_of_lt (by omega)]
  have e2 : ((a.toUInt32 >>> k.toUInt32).toInt32).toBitVec = a.toBitVec >>> j := by
    show a.toBitVec >>> (k.toUInt32.toBitVec % 32) = _
    rw [h2]
    show a.toBitVec >>> (BitVec.ofNat 32 j).toNat = _
    rw [BitVec.toNat_ofNat, Nat.mod_eq_of_lt (by omega)]
  show (a >>> k).toBitVec.signExtend 8 = _
  show _ = ((a.toUInt32 >>> k.toUInt32).toInt32).toBitVec.signExtend 8
  rw [e1, e2]
  exact bsh_aux _ _ h
/-- one byte comes behind n: class, reference -/
def tpC (w : q_W) (n : Nat) (b : Int32) : q_W := q_sI (q_sI w 2 n b) 1 1 (nI (n + 1))
def tpR (w : q_W) (n : Nat) (b : Int32) : q_W := q_sI (q_sI w 1 n b) 0 2 (nI (n + 1))
theorem addByte_ok (a : Int32) (w : q_W) (n : Nat) (hn : n < 2000) (h : w.1 1 1 = nI n) : fX9_addByte a w = some ((), tpC w n (by_ a)) := by
  unfold fX9_addByte
  have h2 : (2000 : Int32) = nI 2000 := rfl
  simp only [q_lt_eq, h]
  rw [if_neg (nI_pos (by omega)), h2, if_neg (by rw [nI_leI (by omega) (by omega)]; omega), if_pos (q_inb_nI hn (by omega)), q_ix_nI (by omega)]
  rw [sI_oth _ _ _ _ _ _ (by omega), h, nI_1]
  rfl
theorem addWord_st (rc : Int32 → Int32 → q_W → Option (Unit × q_W)) (a k : Int32) (w : q_W) (n : Nat) (hn : n < 2000) (h : w.1 1 1 = nI n) (hk : ¬ k < 0) : fX9_addWord_h3 rc a k w = rc a (k + -8) (tpC w n (by_ ((a.toUInt32 >>> (k.toUInt32 &&& Int32.toUInt32 31)).toInt32))) := by
  unfold fX9_addWord_h3
  rw [if_neg hk, addByte_ok _ _ n hn h]
  rfl
theorem put_st (rc : Int32 → Int32 → q_W → Option (Unit × q_W)) (a k : Int32) (w : q_W) (n : Nat) (hn : n < 2000) (h : w.1 0 2 = nI n) (hk : ¬ k < 0) : fX11_put_h3 rc a k w = rc a (k + -8) (tpR w n (by_ (a >>> (k &&& 31)))) := by
  unfold fX11_put_h3
  simp only [q_lt_eq, h]
  rw [if_neg hk, if_pos (q_inb_nI hn (by omega)), q_ix_nI (by omega)]
  rw [sI_oth _ _ _ _ _ _ (by omega), h, nI_1]
  rfl
theorem tpC_n (w : q_W) (n : Nat) (b : Int32) : (tpC w n b).1 1 1 = nI (n + 1) := sI_same _ _ _ _
theorem tpR_n (w : q_W) (n : Nat) (b : Int32) : (tpR w n b).1 0 2 = nI (n + 1) := sI_same _ _ _ _
def twC (w : q_W) (n : Nat) (a : Int32) : q_W := tpC (tpC (tpC (tpC w n (by_ (a >>> (24 : Int32)))) (n + 1) (by_ (a >>> (16 : Int32)))) (n + 2) (by_ (a >>> (8 : Int32)))) (n + 3) (by_ (a >>> (0 : Int32)))
def twR (w : q_W) (n : Nat) (a : Int32) : q_W := tpR (tpR (tpR (tpR w n (by_ (a >>> (24 : Int32)))) (n + 1) (by_ (a >>> (16 : Int32)))) (n + 2) (by_ (a >>> (8 : Int32)))) (n + 3) (by_ (a >>> (0 : Int32)))
theorem addWord_ok (a : Int32) (w : q_W) (n : Nat) (hn : n + 3 < 2000) (h : w.1 1 1 = nI n) : fX9_addWord a w = some ((), twC w n a) := by
  have e (k : Int32) (j : Nat) (h0 : (k.toUInt32 &&& Int32.toUInt32 31) = k.toUInt32) (h1 : k.toBitVec.smod 32 = BitVec.ofNat 32 j) (h2 : k.toUInt32.toBitVec % 32 = BitVec.ofNat 32 j) (hj : j ≤ 24) : by_ ((a.toUInt32 >>> (k.toUInt32 &&& Int32.toUInt32 31)).toInt32) = by_ (a >>> k) := by
    unfold by_
    rw [h0, byte_shr a k j h1 h2 hj]
  unfold fX9_addWord fX9_addWord_l3
  rw [q_itN, addWord_st _ _ _ _ n (by omega) h (by decide)]
  rw [show (3999999999 : Nat) = 3999999998 + 1 from rfl, q_itS, addWord_st _ _ _ _ (n + 1) (by omega) (tpC_n _ _ _) (by decide)]
  rw [show (3999999998 : Nat) = 3999999997 + 1 from rfl, q_itS, addWord_st _ _ _ _ (n + 2) (by omega) (tpC_n _ _ _) (by decide)]
  rw [show (3999999997 : Nat) = 3999999996 + 1 from rfl, q_itS, addWord_st _ _ _ _ (n + 3) (by omega) (tpC_n _ _ _) (by decide)]
  rw [show (3999999996 : Nat) = 3999999995 + 1 from rfl, q_itS]
  unfold fX9_addWord_h3
  rw [if_pos (by decide)]
  rw [show (24 : Int32) + -8 = 16 from rfl, show (16 : Int32) + -8 = 8 from rfl, show (8 : Int32) + -8 = 0 from rfl]
  rw [e 24 24 (by decide) (by decide) (by decide) (by decide), e 16 16 (by decide) (by decide) (by decide) (by decide), e 8 8 (by decide) (by decide) (by decide) (by decide), e 0 0 (by decide) (by decide) (by decide) (by decide)]
  rfl
theorem put_ok (a : Int32) (w : q_W) (n : Nat) (hn : n + 3 < 2000) (h : w.1 0 2 = nI n) : fX11_put a w = some ((), twR w n a) := by
  unfold fX11_put fX11_put_l3
  rw [q_itN, put_st _ _ _ _ n (by omega) h (by decide)]
  rw [show (3999999999 : Nat) = 3999999998 + 1 from rfl, q_itS, put_st _ _ _ _ (n + 1) (by omega) (tpR_n _ _ _) (by decide)]
  rw [show (3999999998 : Nat) = 3999999997 + 1 from rfl, q_itS, put_st _ _ _ _ (n + 2) (by omega) (tpR_n _ _ _) (by decide)]
  rw [show (3999999997 : Nat) = 3999999996 + 1 from rfl, q_itS, put_st _ _ _ _ (n + 3) (by omega) (tpR_n _ _ _) (by decide)]
  rw [show (3999999996 : Nat) = 3999999995 + 1 from rfl, q_itS]
  unfold fX11_put_h3
  rw [if_pos (by decide)]
  rfl
/-- the tape's part of the tie -/
def I_tape (n : Nat) (u v : q_W) : Prop := n ≤ 2000 ∧ u.1 1 1 = nI n ∧ v.1 0 2 = nI n ∧ ∀ i, i < n → u.1 2 i = v.1 1 i
theorem tp_I {u v : q_W} {n : Nat} (h : I_tape n u v) (hn : n < 2000) (b : Int32) : I_tape (n + 1) (tpC u n b) (tpR v n b) := by
  refine ⟨by omega, tpC_n _ _ _, tpR_n _ _ _, fun i hi => ?_⟩
  unfold tpC tpR
  rw [sI_cell (q_sI u 2 n b) 1 1 _ 2 (by decide), sI_cell (q_sI v 1 n b) 0 2 _ 1 (by decide)]
  by_cases e : i = n
  · subst e
    rw [sI_same, sI_same]
  · rw [sI_k _ _ _ _ _ e, sI_k _ _ _ _ _ e]
    exact h.2.2.2 i (by omega)
theorem tw_I {u v : q_W} {n : Nat} (h : I_tape n u v) (hn : n + 3 < 2000) (a : Int32) : I_tape (n + 4) (twC u n a) (twR v n a) :=
  tp_I (tp_I (tp_I (tp_I h (by omega) _) (by omega) _) (by omega) _) (by omega) _
/-- nothing but the tape is touched: class, reference -/
def kpC (u u' : q_W) : Prop := (∀ q k, ¬ (q = 1 ∧ k = 1) → q ≠ 2 → u'.1 q k = u.1 q k) ∧ u'.2 = u.2
def kpR (v v' : q_W) : Prop := (∀ q k, ¬ (q = 0 ∧ k = 2) → q ≠ 1 → v'.1 q k = v.1 q k) ∧ v'.2 = v.2
theorem kpC_r (u : q_W) : kpC u u := ⟨fun _ _ _ _ => rfl, rfl⟩
theorem kpR_r (u : q_W) : kpR u u := ⟨fun _ _ _ _ => rfl, rfl⟩
theorem kpC_t {a b c : q_W} (h : kpC a b) (h' : kpC b c) : kpC a c := ⟨fun q k x y => (h'.1 q k x y).trans (h.1 q k x y), h'.2.trans h.2⟩
theorem kpR_t {a b c : q_W} (h : kpR a b) (h' : kpR b c) : kpR a c := ⟨fun q k x y => (h'.1 q k x y).trans (h.1 q k x y), h'.2.trans h.2⟩
theorem tpC_k (u : q_W) (n : Nat) (b : Int32) : kpC u (tpC u n b) := ⟨fun q k h1 h2 => by unfold tpC; rw [sI_oth _ _ _ _ _ _ h1, sI_oth _ _ _ _ _ _ (fun e => h2 e.1)], rfl⟩
theorem tpR_k (u : q_W) (n : Nat) (b : Int32) : kpR u (tpR u n b) := ⟨fun q k h1 h2 => by unfold tpR; rw [sI_oth _ _ _ _ _ _ h1, sI_oth _ _ _ _ _ _ (fun e => h2 e.1)], rfl⟩
theorem twC_k (u : q_W) (n : Nat) (a : Int32) : kpC u (twC u n a) := kpC_t (kpC_t (kpC_t (tpC_k _ _ _) (tpC_k _ _ _)) (tpC_k _ _ _)) (tpC_k _ _ _)
theorem twR_k (u : q_W) (n : Nat) (a : Int32) : kpR u (twR u n a) := kpR_t (kpR_t (kpR_t (tpR_k _ _ _) (tpR_k _ _ _)) (tpR_k _ _ _)) (tpR_k _ _ _)
theorem sim_feed {u v : q_W} {n : Nat} (a1 a2 a3 a4 a5 : Int32) (h : I_tape n u v) : ∃ r u1 v1 n', fX10_feed a1 a2 a3 a4 a5 u = some (r, u1) ∧ fX11_feed a1 a2 a3 a4 a5 v = some (r, v1) ∧ I_tape n' u1 v1 ∧ kpC u u1 ∧ kpR v v1 := by
  have h2 : (2000 : Int32) = nI 2000 := rfl
  have h20 : (20 : Int32) = nI 20 := rfl
  have hs : nI 2000 - nI n = nI (2000 - n) := by
    have e : nI 2000 = nI (2000 - n) + nI n := by rw [nI_add]; congr 1; have := h.1; omega
    rw [e, Int32.add_sub_cancel]
  unfold fX10_feed fX9_hasRoom fX11_feed
  rw [h.2.1, h.2.2.1, h2, h20, hs, nI_add]
  by_cases hr : n + 20 ≤ 2000
  · rw [if_neg (by rw [nI_ltI (by omega) (by omega)]; omega), if_pos (by rw [nI_leI (by omega) (by omega)]; omega)]
    rw [q_b_some, if_neg (by decide)]
    have i1 := tw_I h (by omega) a1
    have i2 := tw_I i1 (by omega) a2
    have i3 := tw_I i2 (by omega) a3
    have i4 := tw_I i3 (by omega) a4
    have i5 := tw_I i4 (by omega) a5
    rw [addWord_ok a1 u n (by omega) h.2.1, q_b_some, addWord_ok a2 _ _ (by omega) i1.2.1, q_b_some, addWord_ok a3 _ _ (by omega) i2.2.1, q_b_some, addWord_ok a4 _ _ (by omega) i3.2.1, q_b_some, addWord_ok a5 _ _ (by omega) i4.2.1, q_b_some]
    rw [put_ok a1 v n (by omega) h.2.2.1, q_b_some, put_ok a2 _ _ (by omega) i1.2.2.1, q_b_some, put_ok a3 _ _ (by omega) i2.2.2.1, q_b_some, put_ok a4 _ _ (by omega) i3.2.2.1, q_b_some, put_ok a5 _ _ (by omega) i4.2.2.1, q_b_some]
    unfold fX9_size
    rw [q_b_some]
    refine ⟨_, _, _, _, rfl, ?_, i5, kpC_t (kpC_t (kpC_t (kpC_t (twC_k _ _ _) (twC_k _ _ _)) (twC_k _ _ _)) (twC_k _ _ _)) (twC_k _ _ _), kpR_t (kpR_t (kpR_t (kpR_t (twR_k _ _ _) (twR_k _ _ _)) (twR_k _ _ _)) (twR_k _ _ _)) (twR_k _ _ _)⟩
    rw [i5.2.1, i5.2.2.1]
  · have hn := h.1
    rw [if_pos (by rw [nI_ltI (by omega) (by omega)]; omega), if_neg (by rw [nI_leI (by omega) (by omega)]; omega)]
    rw [q_b_some, if_pos rfl]
    exact ⟨_, _, _, _, rfl, rfl, h, kpC_r _, kpR_r _⟩
theorem cut_ok (u : q_W) (n m : Nat) (h : u.1 1 1 = nI n) (hn : n ≤ 2000) (hm : m ≤ n) : fX9_cut (nI m) u = some (1, q_sI u 1 1 (nI (n - m))) := by
  unfold fX9_cut
  rw [if_neg (nI_pos (by omega)), h, if_pos (by rw [nI_leI (by omega) (by omega)]; omega), q_lt_eq]
  have e : nI n = nI (n - m) + nI m := by rw [nI_add]; congr 1; omega
  rw [e, Int32.add_sub_cancel]
theorem tp_cut {u v : q_W} {n m : Nat} (h : I_tape n u v) (hm : m ≤ n) : I_tape (n - m) (q_sI u 1 1 (nI (n - m))) (q_sI v 0 2 (nI (n - m))) := by
  refine ⟨by have := h.1; omega, sI_same _ _ _ _, sI_same _ _ _ _, fun i hi => ?_⟩
  rw [sI_oth _ _ _ _ _ _ (by omega), sI_oth _ _ _ _ _ _ (by omega)]
  exact h.2.2.2 i (by omega)
theorem sim_back {u v : q_W} {n : Nat} (a : Int32) (h : I_tape n u v) : ∃ r u1 v1 n', fX10_back a u = some (r, u1) ∧ fX11_back a v = some (r, v1) ∧ I_tape n' u1 v1 ∧ kpC u u1 ∧ kpR v v1 := by
  unfold fX10_back fX11_back
  by_cases h0 : a < 0
  · unfold fX9_cut
    rw [if_pos h0, if_pos h0, q_b_some, if_pos rfl]
    exact ⟨_, _, _, _, rfl, rfl, h, kpC_r _, kpR_r _⟩
  · rw [if_neg h0]
    obtain ⟨m, hm, rfl⟩ := nI_of h0
    have hn := h.1
    by_cases hm2 : m ≤ n
    · rw [cut_ok u n m h.2.1 hn hm2, q_b_some, if_neg (by decide), h.2.2.1, if_pos (by rw [nI_leI (by omega) (by omega)]; omega), q_lt_eq]
      unfold fX9_size
      rw [q_b_some]
      have e : nI n - nI m = nI (n - m) := by
        have e : nI n = nI (n - m) + nI m := by rw [nI_add]; congr 1; omega
        rw [e, Int32.add_sub_cancel]
      rw [e]
      refine ⟨_, _, _, _, rfl, ?_, tp_cut h hm2, ⟨fun q k x y => sI_oth _ _ _ _ _ _ x, rfl⟩, ⟨fun q k x y => sI_oth _ _ _ _ _ _ x, rfl⟩⟩
      rw [sI_same, sI_same]
    · unfold fX9_cut
      rw [if_neg h0, h.2.1, h.2.2.1, if_neg (by rw [nI_leI (by omega) (by omega)]; omega), if_neg (by rw [nI_leI (by omega) (by omega)]; omega), q_b_some, if_pos rfl]
      exact ⟨_, _, _, _, rfl, rfl, h, kpC_r _, kpR_r _⟩
