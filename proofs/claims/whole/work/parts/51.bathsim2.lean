/-! from, to, home -/
theorem org_pt (t : Nat) (K : Nat → Nat) (Z : Nat → Nat → Int32) : ∀ i x y, ptB x y = true → (org t K Z i x y).1 = 0 → ptB (org t K Z i x y).2.1 (org t K Z i x y).2.2 = true := by
  intro i
  induction i with
  | zero => intro x y h _; exact h
  | succ i ih =>
    intro x y h
    unfold org
    cases hb : bkw t (K i) (Z i) x y with
    | none => intro c; exact absurd c (by show ¬ i + 2 = 0; omega)
    | some p =>
      show (if ptB p.1 p.2 then org t K Z i p.1 p.2 else (1, p.1, p.2)).1 = 0 → ptB (if ptB p.1 p.2 then org t K Z i p.1 p.2 else (1, p.1, p.2)).2.1 (if ptB p.1 p.2 then org t K Z i p.1 p.2 else (1, p.1, p.2)).2.2 = true
      cases hp : ptB p.1 p.2 with
      | true =>
        rw [if_pos rfl]
        exact ih p.1 p.2 hp
      | false =>
        rw [if_neg (by decide)]
        intro c
        exact absurd c (by show ¬ 1 = 0; decide)
theorem fwl_pt (t : Nat) (K : Nat → Nat) (Z : Nat → Nat → Int32) : ∀ n i x y, ptB x y = true → (fwl t K Z n i x y).1 = true → ptB (fwl t K Z n i x y).2.1 (fwl t K Z n i x y).2.2 = true := by
  intro n
  induction n with
  | zero => intro i x y h _; exact h
  | succ n ih =>
    intro i x y h
    unfold fwl
    generalize fww t (K i) (Z i) x y = p
    cases hp : ptB p.1 p.2 with
    | true =>
      rw [if_pos rfl]
      exact ih (i + 1) p.1 p.2 hp
    | false =>
      rw [if_neg (by decide)]
      intro c
      exact absurd (show false = true from c) (by decide)
theorem iabs_ok {p x : Nat} (hp : p < 2 ^ 31) (hx : x < 2 ^ 31) : q_iabs (nI p - nI x) = if nI p ≤ nI x then nI x - nI p else nI p - nI x := by
  unfold q_iabs
  by_cases h : x < p
  · rw [pk_sub (show x ≤ p by omega), if_pos (nI_pos' (by omega)), if_neg (show ¬ nI p ≤ nI x by rw [nI_leI hp hx]; omega)]
  · rw [if_pos (show nI p ≤ nI x by rw [nI_leI hp hx]; omega), pk_sub (show p ≤ x by omega)]
    by_cases e : p = x
    · subst e
      rw [Int32.sub_self, if_pos (by decide), Nat.sub_self]
      rfl
    · rw [subneg (by omega) hx]
      rw [if_neg]
      · have : (0 : Int32) - (0 - nI (x - p)) = nI (x - p) := by grind
        exact this
      · rw [i_le, neg_toInt (by omega), show (0 : Int32).toInt = 0 from rfl]
        omega
theorem sim_from {u v : q_W} {k : Nat} (hl : I_log k u v) (hv : I_val k u) (hb : I_bnd k u) (x y a c : Int32) : ∃ r u' v', fX10_from x y a c u = some (r, u') ∧ fX11_from x y a c v = some (r, v') ∧ frB u u' ∧ frW v v' := by
  have hk := hl.1
  unfold fX10_from fX11_from
  rw [isPointR, q_b_some]
  rcases floatBathC hl hv x y a with ⟨n, hn, rfl, hp, w, e, B, f⟩ | ⟨h, e⟩
  · obtain ⟨w', e', F', t', f'⟩ := bathR hl hv hn
    have V := bathV hl hb hn
    rw [hp, if_neg b01_t, known_R1 hl hn, q_b_some, if_neg i_10]
    by_cases h0 : c < 0
    · rw [if_pos h0, if_pos h0]
      exact ⟨_, _, _, rfl, rfl, frB_r _, frW_r _⟩
    · rw [if_neg h0, if_neg h0]
      by_cases h2 : 2 < c
      · rw [if_pos h2, if_pos h2]
        exact ⟨_, _, _, rfl, rfl, frB_r _, frW_r _⟩
      · rw [if_neg h2, if_neg h2, e, q_b_some, if_neg i_10, e', q_b_some, if_neg i_10, backC B V, originR (BR_FL F' t') V, hp, if_pos rfl, if_pos rfl, q_b_some, q_b_some]
        have ho := org_lt (bthT u n) (KL u (bthL u n)) (ZL u (bthL u n)) (bthL u n).length x y
        have g1 := frB_t f (frB_at w (org (bthT u n) (KL u (bthL u n)) (ZL u (bthL u n)) (bthL u n).length x y).2.1 (org (bthT u n) (KL u (bthL u n)) (ZL u (bthL u n)) (bthL u n).length x y).2.2)
        have g2 := frW_t (frW_F f') (frW_at w' (org (bthT u n) (KL u (bthL u n)) (ZL u (bthL u n)) (bthL u n).length x y).2.1 (org (bthT u n) (KL u (bthL u n)) (ZL u (bthL u n)) (bthL u n).length x y).2.2)
        generalize org (bthT u n) (KL u (bthL u n)) (ZL u (bthL u n)) (bthL u n).length x y = o at ho g1 g2 ⊢
        obtain ⟨s, px, py⟩ := o
        unfold fX0_reachedX fX0_reachedY
        rw [q_b_some, q_b_some, atC_x, atC_y, atR_x, atR_y]
        show ∃ r u' v', (if c = 0 then (if cvC (gL (bthL u n)) s < 0 then some ((-1 : Int32), atC w px py) else some (cvC (gL (bthL u n)) s, atC w px py)) else (if cvC (gL (bthL u n)) s = -2 then some ((-1 : Int32), atC w px py) else if c = 1 then some (px, atC w px py) else some (py, atC w px py))) = some (r, u') ∧ (if c = 0 then (if 0 ≤ cvC id s then (if q_inb (cvC id s) 120 then some ((atR w' px py).1 31 (q_ix (cvC id s)), atR w' px py) else none) else some ((-1 : Int32), atR w' px py)) else (if cvC id s = -2 then some ((-1 : Int32), atR w' px py) else if c = 1 then some (px, atR w' px py) else some (py, atR w' px py))) = some (r, v') ∧ frB u u' ∧ frW v v'
        have hs : s < (bthL u n).length + 2 := ho.1
        have hlen := V.1
        have hgl : 2 ≤ s → gL (bthL u n) (s - 2) < 2 ^ 31 := by
          intro h
          obtain ⟨_, _, _, _, L, hL, _, h5⟩ := B
          have := (h5 (s - 2) (by omega)).1
          omega
        by_cases s0 : s = 0
        · subst s0
          rw [show cvC (gL (bthL u n)) 0 = -1 from rfl, show cvC id 0 = -1 from rfl]
          by_cases c0 : c = 0
          · rw [if_pos c0, if_pos c0, if_pos (by decide), if_neg (by decide)]
            exact ⟨_, _, _, rfl, rfl, g1, g2⟩
          · rw [if_neg c0, if_neg c0, if_neg (show ¬ (-1 : Int32) = -2 by decide), if_neg (show ¬ (-1 : Int32) = -2 by decide)]
            by_cases c1 : c = 1
            · rw [if_pos c1, if_pos c1]
              exact ⟨_, _, _, rfl, rfl, g1, g2⟩
            · rw [if_neg c1, if_neg c1]
              exact ⟨_, _, _, rfl, rfl, g1, g2⟩
        · by_cases s1 : s = 1
          · subst s1
            rw [show cvC (gL (bthL u n)) 1 = -2 from rfl, show cvC id 1 = -2 from rfl]
            by_cases c0 : c = 0
            · rw [if_pos c0, if_pos c0, if_pos (by decide), if_neg (by decide)]
              exact ⟨_, _, _, rfl, rfl, g1, g2⟩
            · rw [if_neg c0, if_neg c0, if_pos rfl, if_pos rfl]
              exact ⟨_, _, _, rfl, rfl, g1, g2⟩
          · have hg := hgl (by omega)
            have e1 : cvC (gL (bthL u n)) s = nI (gL (bthL u n) (s - 2)) := by unfold cvC; rw [if_neg s0, if_neg s1]
            have e2 : cvC id s = nI (s - 2) := by unfold cvC; rw [if_neg s0, if_neg s1]; rfl
            have ne (m : Nat) (hm : m < 2 ^ 31) : ¬ nI m = -2 := by
              intro c
              have := nI_pos hm
              rw [c] at this
              exact this (by decide)
            rw [e1, e2]
            by_cases c0 : c = 0
            · rw [if_pos c0, if_pos c0, if_neg (nI_pos hg), if_pos (nI_pos' (by omega)), if_pos (q_inb_nI (by omega) (by omega)), q_ix_nI (by omega), atR_o _ _ _ 31 (by decide), (F'.2 (s - 2) (by omega)).1]
              exact ⟨_, _, _, rfl, rfl, g1, g2⟩
            · rw [if_neg c0, if_neg c0, if_neg (ne _ hg), if_neg (ne _ (by omega))]
              by_cases c1 : c = 1
              · rw [if_pos c1, if_pos c1]
                exact ⟨_, _, _, rfl, rfl, g1, g2⟩
              · rw [if_neg c1, if_neg c1]
                exact ⟨_, _, _, rfl, rfl, g1, g2⟩
  · have eC : (if c < 0 then some ((-1 : Int32), u) else if 2 < c then some (-1, u) else q_b (fX10_floatBath x y a u) fun r1 w2 => if r1 = 0 then some (-1, w2) else q_b (fX0_goBack x y w2) fun r3 w4 => if c = 0 then (if r3 < 0 then some (-1, w4) else some (r3, w4)) else if r3 = -2 then some (-1, w4) else if c = 1 then (q_b (fX0_reachedX w4) fun r5 w6 => some (r5, w6)) else q_b (fX0_reachedY w4) fun r7 w8 => some (r7, w8)) = some (-1, u) := by
      rw [e, q_b_some, if_pos rfl]
      by_cases h0 : c < 0
      · rw [if_pos h0]
      · rw [if_neg h0]
        by_cases h2 : 2 < c
        · rw [if_pos h2]
        · rw [if_neg h2]
    refine ⟨-1, u, v, eC, ?_, frB_r _, frW_r _⟩
    rcases h with h | h
    · rw [h, if_pos b01_f]
    · rw [known_R hl h, q_b_some, if_pos rfl]
      by_cases c : b01 (ptB x y) = 0
      · rw [if_pos c]
      · rw [if_neg c]
theorem sim_to {u v : q_W} {k : Nat} (hl : I_log k u v) (hv : I_val k u) (hb : I_bnd k u) (x y a c : Int32) : ∃ r u' v', fX10_to x y a c u = some (r, u') ∧ fX11_to x y a c v = some (r, v') ∧ frB u u' ∧ frW v v' := by
  have hk := hl.1
  unfold fX10_to fX11_to
  rw [isPointR, q_b_some]
  rcases floatBathC hl hv x y a with ⟨n, hn, rfl, hp, w, e, B, f⟩ | ⟨h, e⟩
  · obtain ⟨w', e', F', t', f'⟩ := bathR hl hv hn
    have V := bathV hl hb hn
    rw [hp, if_neg b01_t, known_R1 hl hn, q_b_some, if_neg i_10]
    by_cases h0 : c < 0
    · rw [if_pos h0, if_pos h0]
      exact ⟨_, _, _, rfl, rfl, frB_r _, frW_r _⟩
    · rw [if_neg h0, if_neg h0]
      by_cases h2 : 1 < c
      · rw [if_pos h2, if_pos h2]
        exact ⟨_, _, _, rfl, rfl, frB_r _, frW_r _⟩
      · rw [if_neg h2, if_neg h2, e, q_b_some, if_neg i_10, e', q_b_some, if_neg i_10, forthC B V x y hp, goesR (BR_FL F' t') V x y hp, q_b_some, q_b_some]
        unfold fX0_reachedX fX0_reachedY
        rw [q_b_some, q_b_some, atC_x, atC_y, atR_x, atR_y]
        have g1 (p q : Int32) := frB_t f (frB_at w p q)
        have g2 (p q : Int32) := frW_t (frW_F f') (frW_at w' p q)
        by_cases h3 : b01 (fwl (bthT u n) (KL u (bthL u n)) (ZL u (bthL u n)) (bthL u n).length 0 x y).1 = 0
        · rw [if_pos h3, if_pos h3]
          exact ⟨_, _, _, rfl, rfl, g1 _ _, g2 _ _⟩
        · rw [if_neg h3, if_neg h3]
          by_cases c1 : c = 0
          · rw [if_pos c1, if_pos c1]
            exact ⟨_, _, _, rfl, rfl, g1 _ _, g2 _ _⟩
          · rw [if_neg c1, if_neg c1]
            exact ⟨_, _, _, rfl, rfl, g1 _ _, g2 _ _⟩
  · refine ⟨-1, u, v, ?_, ?_, frB_r _, frW_r _⟩
    · rw [e, q_b_some, if_pos rfl]
      by_cases h0 : c < 0
      · rw [if_pos h0]
      · rw [if_neg h0]
        by_cases h2 : 1 < c
        · rw [if_pos h2]
        · rw [if_neg h2]
    · rcases h with h | h
      · rw [h, if_pos b01_f]
      · rw [known_R hl h, q_b_some, if_pos rfl]
        by_cases c : b01 (ptB x y) = 0
        · rw [if_pos c]
        · rw [if_neg c]
theorem homeR_n (y s0 : Int32) (w : q_W) : fX11_home_n78 y s0 w = some (s0 + (if w.1 0 62 ≤ y then y - w.1 0 62 else w.1 0 62 - y), w) := by
  unfold fX11_home_n78
  by_cases h : w.1 0 62 ≤ y
  · rw [if_pos h, if_pos h]
  · rw [if_neg h, if_neg h]
theorem sim_home {u v : q_W} {k : Nat} (hl : I_log k u v) (hv : I_val k u) (hb : I_bnd k u) (x y a : Int32) : ∃ r u' v', fX10_home x y a u = some (r, u') ∧ fX11_home x y a v = some (r, v') ∧ frB u u' ∧ frW v v' := by
  have hk := hl.1
  unfold fX10_home fX11_home
  rw [isPointR, q_b_some]
  rcases floatBathC hl hv x y a with ⟨n, hn, rfl, hp, w, e, B, f⟩ | ⟨h, e⟩
  · obtain ⟨w', e', F', t', f'⟩ := bathR hl hv hn
    have V := bathV hl hb hn
    have F := BR_FL F' t'
    have g1 (p q : Int32) := frB_t f (frB_at w p q)
    have g2 (p q : Int32) := frW_t (frW_F f') (frW_at w' p q)
    rw [hp, if_neg b01_t, known_R1 hl hn, q_b_some, if_neg i_10, e, q_b_some, if_neg i_10, e', q_b_some, if_neg i_10, forthC B V x y hp, goesR F V x y hp, q_b_some, q_b_some]
    have hpt := fwl_pt (bthT u n) (KL u (bthL u n)) (ZL u (bthL u n)) (bthL u n).length 0 x y hp
    generalize fwl (bthT u n) (KL u (bthL u n)) (ZL u (bthL u n)) (bthL u n).length 0 x y = o at hpt ⊢
    obtain ⟨b, px, py⟩ := o
    cases b with
    | false =>
      rw [if_pos b01_f, if_pos b01_f]
      exact ⟨_, _, _, rfl, rfl, g1 _ _, g2 _ _⟩
    | true =>
      have hpt : ptB px py = true := hpt rfl
      rw [if_neg b01_t, if_neg b01_t]
      unfold fX0_reachedX fX0_reachedY
      rw [q_b_some, q_b_some, atC_x, atC_y, atR_x, atR_y]
      dsimp only
      have ho := org_pt (bthT u n) (KL u (bthL u n)) (ZL u (bthL u n)) (bthL u n).length px py hpt
      have hlt := org_lt (bthT u n) (KL u (bthL u n)) (ZL u (bthL u n)) (bthL u n).length px py
      have hlen := V.1
      rw [backC (BC_at B px py) V, originR (BR_at F px py) V, hpt, if_pos rfl, if_pos rfl, q_b_some, q_b_some]
      generalize org (bthT u n) (KL u (bthL u n)) (ZL u (bthL u n)) (bthL u n).length px py = o at ho hlt ⊢
      obtain ⟨s, qx, qy⟩ := o
      have g1 := frB_t (g1 px py) (frB_at (atC w px py) qx qy)
      have g2 := frW_t (g2 px py) (frW_at (atR w' px py) qx qy)
      dsimp only
      by_cases s0 : s = 0
      · subst s0
        rw [show cvC (gL (bthL u n)) 0 = -1 from rfl, show cvC id 0 = -1 from rfl, if_pos (show (-1 : Int32) = -1 from rfl), q_b_some, q_b_some, if_pos (show (-1 : Int32) = -1 from rfl), homeR_n, homeR_n, atC_x, atC_y, atR_x, atR_y]
        obtain ⟨xa, ya, hxa, hya, rfl, rfl⟩ := ptB_of hp
        obtain ⟨pa, pb, hpa, hpb, e1, e2⟩ := ptB_of (ho rfl)
        have e1 : qx = nI pa := e1
        have e2 : qy = nI pb := e2
        subst e1 e2
        rw [iabs_ok (by omega) (by omega), iabs_ok (by omega) (by omega)]
        by_cases c1 : nI pa ≤ nI xa
        · rw [if_pos c1, if_pos c1]
          exact ⟨_, _, _, rfl, rfl, g1, g2⟩
        · rw [if_neg c1, if_neg c1]
          exact ⟨_, _, _, rfl, rfl, g1, g2⟩
      · have ne (m : Nat) (hm : m < 2 ^ 31) : ¬ nI m = -1 := by
          intro c
          have := nI_pos hm
          rw [c] at this
          exact this (by decide)
        have n1 : ¬ cvC (gL (bthL u n)) s = -1 := by
          unfold cvC
          rw [if_neg s0]
          by_cases s1 : s = 1
          · rw [if_pos s1]; decide
          · rw [if_neg s1]
            have hs : s < (bthL u n).length + 2 := hlt.1
            obtain ⟨_, _, _, _, L, hL, _, h5⟩ := B
            have := (h5 (s - 2) (by omega)).1
            exact ne _ (by omega)
        have n2 : ¬ cvC id s = -1 := by
          unfold cvC
          rw [if_neg s0]
          by_cases s1 : s = 1
          · rw [if_pos s1]; decide
          · rw [if_neg s1]
            have hs : s < (bthL u n).length + 2 := hlt.1
            exact ne _ (by show s - 2 < _; omega)
        rw [if_neg n1, q_b_some, if_neg n2]
        exact ⟨_, _, _, rfl, rfl, g1, g2⟩
  · refine ⟨-1, u, v, ?_, ?_, frB_r _, frW_r _⟩
    · rw [e, q_b_some, if_pos rfl]
    · rcases h with h | h
      · rw [h, if_pos b01_f]
      · rw [known_R hl h, q_b_some, if_pos rfl]
        by_cases c : b01 (ptB x y) = 0
        · rw [if_pos c]
        · rw [if_neg c]
/-- the strokes of the bath as known by all: count 2 -/
theorem sim_count2 {u v : q_W} {k : Nat} (hl : I_log k u v) (hv : I_val k u) (hb : I_bnd k u) : ∃ r u' v', fX10_count 2 u = some (r, u') ∧ fX11_count 2 v = some (r, v') ∧ frB u u' ∧ frW v v' := by
  have hk := hl.1
  have V := bathV hl hb (Nat.le_refl k)
  obtain ⟨r, w1, w2, e1, e2, e3, e4⟩ := bathC hl hv (Nat.le_refl k)
  obtain ⟨w', e', F', t', f'⟩ := bathR hl hv (Nat.le_refl k)
  have hs (w : q_W) : fX2_size w = some (w.1 4 2, w) := by
    unfold fX2_size fX6_size
    rw [if_pos (by decide), q_b_some]
  unfold fX10_count fX11_count fX0_size
  rw [if_neg (show ¬ (2 : Int32) = 0 by decide), if_neg (show ¬ (2 : Int32) = 1 by decide), if_pos (show (2 : Int32) = 2 from rfl), if_neg (show ¬ (2 : Int32) = 0 by decide), if_neg (show ¬ (2 : Int32) = 1 by decide), if_pos (show (2 : Int32) = 2 from rfl)]
  rw [hs, q_b_some, hs, q_b_some, hl.2.1, e1, q_b_some, e2, q_b_some, q_b_some, hl.2.2.2.1, e', q_b_some, if_neg i_10, e3.2.2.1, F'.1]
  exact ⟨_, _, _, rfl, rfl, e4, frW_F f'⟩
