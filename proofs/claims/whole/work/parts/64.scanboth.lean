/-! the whole cutting, side by side -/
theorem scan_lok {n : Nat} {B : Nat → Nat} : ∀ K t i (u v : q_W) N M last, t + K = 501 → K < N → i ≤ n → n + 2 < M + i → TXC n B u → TXR n B v → wordsC u → keysR v → u.1 24 4 = nI i → ¬ last = 0 → ¬ last = -1 → v.1 0 10 = nI t → ∃ u' v' T, q_it N fX7_scan_h9 (fun _ _ _ => none) last (nI t) u = some ((), u') ∧ q_it M fX11_cut_h7 (fun _ _ => none) (nI i) v = some ((), v') ∧ scF u u' ∧ ctF v v' ∧ entC t u u' ∧ entR t v v' ∧ T ≤ 500 ∧ (∀ j, t ≤ j → j ≤ T → tokOK u' v' j) ∧ (∀ j, t ≤ j → j < T → ¬ v'.1 3 j = 0 ∧ ¬ v'.1 3 j = 3) ∧ (t ≤ T ∨ t = 501 ∧ T = 500) ∧ (T = 500 ∨ v'.1 3 T = 0 ∨ v'.1 3 T = 3) := by
  intro K
  induction K with
  | zero =>
    intro t i u v N M last h hN hi hM T T' hw hk hp l0 l1 hv
    obtain ⟨N, rfl⟩ : ∃ X, N = X + 1 := ⟨N - 1, by omega⟩
    obtain ⟨M, rfl⟩ : ∃ X, M = X + 1 := ⟨M - 1, by omega⟩
    have ht : t = 501 := by omega
    subst ht
    rw [q_itS, fX7_scan_h9, if_pos (by decide), q_itS, fX11_cut_h7, hv, if_pos (by decide)]
    exact ⟨u, v, 500, rfl, rfl, scF_r u, ctF_r v, fun _ _ => ⟨rfl, rfl, rfl⟩, fun _ _ => ⟨rfl, rfl, rfl, rfl⟩, Nat.le_refl _, fun j a b => by omega, fun j a b => by omega, Or.inr ⟨rfl, rfl⟩, Or.inl rfl⟩
  | succ K ih =>
    intro t i u v N M last h hN hi hM T T' hw hk hp l0 l1 hv
    have hn := T.2.1
    obtain ⟨N, rfl⟩ : ∃ X, N = X + 1 := ⟨N - 1, by omega⟩
    obtain ⟨j, hjn, hr⟩ := run_ex (blP_n n B) n i (by omega) hi
    have hij := hr.1
    obtain ⟨M1, rfl⟩ : ∃ X, M = X + 1 + (j - i) := ⟨M - (j - i) - 1, by omega⟩
    have ib : q_inb (nI t) 501 := q_inb_nI (by omega) (by omega)
    have eu : u = stC u (nI i) (u.2.2 24 5) := (stC_id u _ _ hp rfl).symm
    have ek : fX7_skipBlanks u = some ((), stC u (nI j) (u.2.2 24 5)) := by
      have := skipC T (u.2.2 24 5) (i := i) (j := j) (by omega) hr
      rw [← eu] at this
      exact this
    rw [q_itS, fX7_scan_h9, if_neg (by rw [show (501 : Int32) = nI 501 from rfl, nI_leI (by omega) (by omega)]; omega), if_neg l0, if_neg l1, ek, q_b_some, if_pos ib, q_lt_eq, stC_x, q_ix_nI (by omega)]
    rw [skipR T' (show t ≤ 500 by omega) hv hjn (j - i) i (M1 + 1) (by omega) hr.2.1, q_itS]
    generalize hw1 : q_sI (stC u (nI j) (u.2.2 24 5)) 27 t (nI j) = u1
    have f1 : scF u u1 := by
      subst hw1
      exact ⟨fun q h1 h2 h3 => by rw [sI_cell _ _ _ _ _ h3, stC_c _ _ _ _ h1], rfl, fun q h1 h2 => funext fun k => stC_l _ _ _ _ _ (fun c => h1 c.1)⟩
    have x1 : u1.1 24 4 = nI j := by subst hw1; rw [sI_cell _ _ _ _ _ (by decide), stC_x]
    have c1 : ∀ m, u1.1 26 m = u.1 26 m ∧ u1.2.2 28 m = u.2.2 28 m ∧ u1.1 27 m = if m = t then nI j else u.1 27 m := by
      subst hw1
      intro m
      refine ⟨by rw [sI_cell _ _ _ _ _ (by decide), stC_c _ _ _ _ (by decide)], stC_l _ _ _ _ _ (by omega), by rw [sI_if, stC_c _ _ _ _ (by decide)]⟩
    have T1 := TXC_sc f1 T
    have w1 := words_sc f1 hw
    have eu1 : u1 = stC u1 (nI j) (u1.2.2 24 5) := (stC_id u1 _ _ x1 rfl).symm
    -- the token is kept
    have keep (kk : Int32) (p s' : _) : ∀ uu, uu = stC u1 p s' → ∃ u2, q_sL (q_sI uu 26 t kk) 28 t ((q_sI uu 26 t kk).2.2 24 5) = u2 ∧ scF u u2 ∧ entC t u u2 ∧ u2.1 26 t = kk ∧ u2.1 27 t = nI j ∧ u2.2.2 28 t = s' ∧ u2.1 24 4 = p := by
      rintro uu rfl
      refine ⟨_, rfl, scF_t f1 ⟨fun q h1 h2 h3 => ?_, rfl, fun q h1 h2 => funext fun k => ?_⟩, fun m hm => ⟨?_, ?_, ?_⟩, ?_, ?_, ?_, ?_⟩
      · show (q_sI (stC u1 p s') 26 t kk).1 q = _
        rw [sI_cell _ _ _ _ _ h2, stC_c _ _ _ _ h1]
      · show (if q = 28 ∧ k = t then _ else (stC u1 p s').2.2 q k) = _
        rw [if_neg (fun c => h2 c.1), stC_l _ _ _ _ _ (fun c => h1 c.1)]
      · show (q_sI (stC u1 p s') 26 t kk).1 26 m = _
        rw [sI_k _ _ _ _ _ (by omega), stC_c _ _ _ _ (by decide)]
        exact (c1 m).1
      · show (q_sI (stC u1 p s') 26 t kk).1 27 m = _
        rw [sI_cell _ _ _ _ _ (by decide), stC_c _ _ _ _ (by decide), (c1 m).2.2, if_neg (by omega)]
      · show (if 28 = 28 ∧ m = t then _ else (stC u1 p s').2.2 28 m) = _
        rw [if_neg (by omega), stC_l _ _ _ _ _ (by omega)]
        exact (c1 m).2.1
      · show (q_sI (stC u1 p s') 26 t kk).1 26 t = _
        rw [sI_same]
      · show (q_sI (stC u1 p s') 26 t kk).1 27 t = _
        rw [sI_cell _ _ _ _ _ (by decide), stC_c _ _ _ _ (by decide), (c1 t).2.2, if_pos rfl]
      · show (if 28 = 28 ∧ t = t then (q_sI (stC u1 p s') 26 t kk).2.2 24 5 else _) = _
        rw [if_pos ⟨rfl, rfl⟩]
        rfl
      · show (q_sI (stC u1 p s') 26 t kk).1 24 4 = _
        rw [sI_cell _ _ _ _ _ (by decide), stC_x]
    unfold fX7_scan_n46
    by_cases hend : j = n
    · subst hend
      obtain ⟨v', e', f'⟩ := cutR_end T' (q_it M1 fX11_cut_h7 (fun _ _ => none)) (t := t) (by omega) hv
      have et := tokenC_end T1 (u1.2.2 24 5)
      rw [← eu1] at et
      obtain ⟨u2, g0, g1, g2, g3, g4, g5, g6⟩ := keep 0 (nI j) 0 _ rfl
      rw [et, q_b_some, if_pos ib, q_lt_eq, if_pos ib, q_lt_eq, q_lt_eq, nI_1, q_ix_nI (by omega), g0, e']
      obtain ⟨u3, e3, a3, b3⟩ := tailC K N (t + 1) u2 0 (by omega) (by omega) (Or.inl rfl)
      have hk0 : v'.1 3 t = 0 := by rw [f'.2.2.2.1, if_pos rfl]
      refine ⟨u3, v', t, e3, rfl, scF_t g1 b3, ctF_tk f', entC_t g2 a3 (by omega), entR_tk f', by omega, fun m a b => ?_, fun m a b => by omega, Or.inl (Nat.le_refl _), Or.inr (Or.inl hk0)⟩
      have em : m = t := by omega
      subst em
      obtain ⟨q1, q2, q3⟩ := a3 m (by omega)
      refine ⟨0, Or.inr (Or.inr rfl), hk0, by rw [q1, g3]; rfl, by rw [q2, g4, f'.2.2.2.2.1, if_pos rfl], fun c => absurd c (by decide), fun c => absurd c (by decide)⟩
    · obtain ⟨r, e, x, s, v1, hp1, e1, f', l1', l2'⟩ := cutR_st T' hk (q_it M1 fX11_cut_h7 (fun _ _ => none)) (i := j) (t := t) (by omega) (by omega) hv hr.2.2
      have hrr := tokP_r hp1
      obtain ⟨s', et, hn1, hn2⟩ := tokenC T1 w1 (u1.2.2 24 5) (show j < n by omega) l2' hp1
      rw [← eu1] at et
      obtain ⟨u2, g0, g1, g2, g3, g4, g5, g6⟩ := keep (km r) (nI e) s' _ rfl
      rw [et, q_b_some, if_pos ib, q_lt_eq, if_pos ib, q_lt_eq, q_lt_eq, nI_1, q_ix_nI (by omega), g0, e1]
      have hkr : v1.1 3 t = nI r := by rw [f'.2.2.2.1, if_pos rfl]
      have tk : tokOK u2 v1 t := by
        refine ⟨r, ?_, hkr, g3, by rw [g4, f'.2.2.2.2.1, if_pos rfl], fun c => ?_, fun c => ?_⟩
        · rcases hrr with a | a
          · exact Or.inl a
          · exact Or.inr (Or.inl a)
        · obtain ⟨l, a, b, d⟩ := hn1 c
          exact ⟨l, a, by rw [g5, b], by rw [f'.2.2.2.2.2.2.2, if_pos ⟨rfl, rfl⟩, d]⟩
        · obtain ⟨y, a, b, d⟩ := hn2 c
          exact ⟨y, a, by rw [g5, b], by rw [f'.2.2.2.2.2.1, if_pos rfl, d]⟩
      have f1' := ctF_tk f'
      clear hn1 hn2 keep
      by_cases h3 : r = 3
      · subst h3
        obtain ⟨u3, e3, a3, b3⟩ := tailC K N (t + 1) u2 (km 3) (by omega) (by omega) (Or.inr rfl)
        obtain ⟨v', e4, a4, b4⟩ := restR (n - e) e (t + 1) v1 M1 (by omega) l2' (by omega) (by omega) (TXR_ct f1' T') (keys_ct f1' hk) f'.1
        obtain ⟨b1, b2, b3', b4'⟩ := a4 t (by omega)
        refine ⟨u3, v', t, e3, e4, scF_t g1 b3, ctF_t f1' b4, entC_t g2 a3 (by omega), entR_t (entR_tk f') a4 (by omega), by omega, fun m a b => ?_, fun m a b => by omega, Or.inl (Nat.le_refl _), Or.inr (Or.inr (by rw [b1, hkr]; rfl))⟩
        have em : m = t := by omega
        subst em
        exact tok_mono tk a3 a4 (by omega) (by omega)
      · obtain ⟨k1, k2⟩ := km_go r (by omega) (by omega) h3
        obtain ⟨u', v', T0, z1, z2, z3, z4, z5, z6, z7, z8, z9, z10, z11⟩ := ih (t + 1) e u2 v1 N M1 (km r) (by omega) (by omega) l2' (by omega) (TXC_sc g1 T) (TXR_ct f1' T') (words_sc g1 hw) (keys_ct f1' hk) g6 k1 k2 f'.1
        obtain ⟨b1, b2, b3', b4'⟩ := z6 t (by omega)
        refine ⟨u', v', T0, z1, z2, scF_t g1 z3, ctF_t f1' z4, entC_t g2 z5 (by omega), entR_t (entR_tk f') z6 (by omega), z7, fun m a b => ?_, fun m a b => ?_, Or.inl (by omega), z11⟩
        · by_cases em : m = t
          · subst em
            exact tok_mono tk z5 z6 (by omega) (by omega)
          · exact z8 m (by omega) b
        · by_cases em : m = t
          · subst em
            rw [b1, hkr]
            refine ⟨nI_ne (b := 0) (by omega) (by omega) (by omega), nI_ne (b := 3) (by omega) (by omega) h3⟩
          · exact z9 m (by omega) b
/-- the tokens that count -/
def toks (T : Nat) (u v : q_W) : Prop := T ≤ 500 ∧ (∀ j, j ≤ T → tokOK u v j) ∧ (∀ j, j < T → ¬ v.1 3 j = 0 ∧ ¬ v.1 3 j = 3) ∧ (T = 500 ∨ v.1 3 T = 0 ∨ v.1 3 T = 3)
theorem scan_both {n : Nat} {B : Nat → Nat} {u v : q_W} (T : TXC n B u) (T' : TXR n B v) (hw : wordsC u) (hk : keysR v) : ∃ u' v' t, fX7_scan u = some ((), u') ∧ fX11_cut v = some ((), v') ∧ scF u u' ∧ ctF v v' ∧ toks t u' v' := by
  have hn := T.2.1
  unfold fX7_scan fX7_scan_l9 fX11_cut fX11_cut_l7
  rw [q_lt_eq, q_lt_eq]
  have f1 : scF u (q_sI u 24 4 0) := ⟨fun q h1 _ _ => sI_cell _ _ _ _ _ h1, rfl, fun _ _ _ => rfl⟩
  have f2 : ctF v (q_sI v 0 10 0) := ⟨fun q h1 _ _ _ => sI_cell _ _ _ _ _ h1, fun j hj => sI_k _ _ _ _ _ hj, rfl, fun _ _ => rfl⟩
  obtain ⟨u', v', t, z1, z2, z3, z4, z5, z6, z7, z8, z9, z10, z11⟩ := scan_lok (n := n) (B := B) 501 0 0 (q_sI u 24 4 0) (q_sI v 0 10 0) q_N q_N 1 rfl (Nat.le_of_ble_eq_true rfl) (Nat.zero_le _) (Nat.lt_of_le_of_lt (show n + 2 ≤ 2002 by omega) (Nat.le_of_ble_eq_true rfl)) (TXC_sc f1 T) (TXR_ct f2 T') (words_sc f1 hw) (keys_ct f2 hk) (sI_same _ _ _ _) (by decide) (by decide) (sI_same _ _ _ _)
  rw [nI_0] at z1 z2
  exact ⟨u', v', t, z1, z2, scF_t f1 z3, ctF_t f2 z4, z7, fun j hj => z8 j (Nat.zero_le _) hj, fun j hj => z9 j (Nat.zero_le _) hj, z11⟩
