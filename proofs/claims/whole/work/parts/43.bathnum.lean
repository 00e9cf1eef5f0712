/-! the bath: whole roots, halvings -/
def isRt (r v : Nat) : Prop := r * r ≤ v ∧ v < (r + 1) * (r + 1)
theorem isRt_le {r s v : Nat} (h : isRt r v) (h' : s * s ≤ v) : s ≤ r := by
  apply Nat.le_of_not_lt
  intro x
  have := Nat.mul_le_mul (show r + 1 ≤ s from x) (show r + 1 ≤ s from x)
  have := h.2
  omega
theorem isRt_lt {r s v : Nat} (h : isRt r v) (h' : v < s * s) : r < s := by
  apply Nat.lt_of_not_le
  intro x
  have := Nat.mul_le_mul x x
  have := h.1
  omega
theorem isRt_ex (v : Nat) : ∃ r, isRt r v := by
  induction v with
  | zero => exact ⟨0, by decide, by decide⟩
  | succ v ih =>
    obtain ⟨r, h1, h2⟩ := ih
    by_cases h : v + 1 < (r + 1) * (r + 1)
    · exact ⟨r, by omega, h⟩
    · refine ⟨r + 1, by omega, ?_⟩
      have : (r + 1 + 1) * (r + 1 + 1) = (r + 1) * (r + 1) + (r + 1) + (r + 1) + 1 := by
        simp only [Nat.mul_add, Nat.add_mul]; omega
      omega
noncomputable def rt (v : Nat) : Nat := Classical.choose (isRt_ex v)
theorem rt_is (v : Nat) : isRt (rt v) v := Classical.choose_spec (isRt_ex v)
theorem rt_pos {v : Nat} (h : 0 < v) : 0 < rt v := by
  have := isRt_le (s := 1) (rt_is v) (by omega)
  omega
theorem rt_le {v s : Nat} (h : v < (s + 1) * (s + 1)) : rt v ≤ s := by
  have := isRt_lt (rt_is v) h
  omega
theorem rootC_lok (v : Nat) (hv : v ≤ 4000000) (h0 : 0 < v) : ∀ d N i e (w : q_W), i + d < 40 → d < N → e < 2 ^ d → rt v + e ≤ 2048 → q_it N fX0_root_h14 (fun _ _ _ _ => none) (nI v) (nI (rt v + e)) (nI i) w = some (nI (rt v), w) := by
  have hr := rt_pos h0
  have hi := rt_is v
  intro d
  induction d with
  | zero =>
    intro N i e w h1 h2 h3 h4
    obtain ⟨N, rfl⟩ : ∃ M, N = M + 1 := ⟨N - 1, by omega⟩
    have e0 : e = 0 := by omega
    subst e0
    have hq : rt v ≤ v / rt v := by
      rw [Nat.le_div_iff_mul_le hr]
      exact hi.1
    have hq2 : v / rt v ≤ v := Nat.div_le_self _ _
    rw [q_itS, fX0_root_h14, Nat.add_zero, if_neg (by rw [show (40 : Int32) = nI 40 from rfl, nI_leI (by omega) (by omega)]; omega), if_neg (nI_nle hr (by omega)), if_neg (nI_ne0 hr (by omega)), q_lt_eq, pk_div (by omega) hr (by omega), nI_add, show (2 : Int32) = nI 2 from rfl, pk_div (by omega) (by decide) (by decide), if_neg (by rw [nI_ltI (by omega) (by omega)]; omega)]
  | succ d ih =>
    intro N i e w h1 h2 h3 h4
    obtain ⟨N, rfl⟩ : ∃ M, N = M + 1 := ⟨N - 1, by omega⟩
    have hq2 : v / (rt v + e) ≤ v := Nat.div_le_self _ _
    rw [q_itS, fX0_root_h14, if_neg (by rw [show (40 : Int32) = nI 40 from rfl, nI_leI (by omega) (by omega)]; omega), if_neg (nI_nle (by omega) (by omega)), if_neg (nI_ne0 (by omega) (by omega)), q_lt_eq, pk_div (by omega) (by omega) (by omega), nI_add, show (2 : Int32) = nI 2 from rfl, pk_div (by omega) (by decide) (by decide)]
    by_cases e0 : e = 0
    · subst e0
      have hq : rt v ≤ v / rt v := by
        rw [Nat.le_div_iff_mul_le hr]
        exact hi.1
      have hq3 : v / rt v ≤ v := Nat.div_le_self _ _
      rw [Nat.add_zero, if_neg (by rw [nI_ltI (by omega) (by omega)]; omega)]
    · have hq : v / (rt v + e) < rt v + 1 := by
        rw [Nat.div_lt_iff_lt_mul (by omega)]
        have := Nat.mul_le_mul_left (rt v + 1) (show rt v + 1 ≤ rt v + e by omega)
        have := hi.2
        omega
      have hl : rt v - e ≤ v / (rt v + e) := by
        rw [Nat.le_div_iff_mul_le (by omega)]
        refine Nat.le_trans ?_ hi.1
        by_cases hx : e ≤ rt v
        · obtain ⟨f, hf⟩ : ∃ f, rt v = f + e := ⟨rt v - e, by omega⟩
          rw [hf, Nat.add_sub_cancel]
          simp only [Nat.mul_add, Nat.add_mul]
          have := Nat.mul_comm e f
          omega
        · rw [show rt v - e = 0 by omega, Nat.zero_mul]
          omega
      obtain ⟨q, hqq⟩ : ∃ q, v / (rt v + e) = q := ⟨_, rfl⟩
      rw [hqq] at hq hl ⊢
      rw [if_pos (by rw [nI_ltI (by omega) (by omega)]; omega), q_lt_eq, nI_1]
      have e2 : (rt v + e + q) / 2 = rt v + (e + q - rt v) / 2 := by omega
      rw [e2]
      have h2p : 2 ^ (d + 1) = 2 * 2 ^ d := by rw [Nat.pow_succ, Nat.mul_comm]
      exact ih N (i + 1) _ w (by omega) (by omega) (by omega) (by omega)
theorem rootC_ok (v : Nat) (hv : v ≤ 4000000) (w : q_W) : fX0_root (nI v) w = some (nI (rt v), w) := by
  unfold fX0_root fX0_root_n11 fX0_root_l14
  by_cases h0 : v = 0
  · subst h0
    rw [if_pos (by decide), q_itN, fX0_root_h14, if_neg (by decide), if_pos (by decide)]
    have : rt 0 = 0 := by have := rt_le (v := 0) (s := 0) (by decide); omega
    rw [this]; rfl
  · rw [if_neg (nI_nle (by omega) (by omega))]
    have h2 : rt v ≤ 2000 := rt_le (by omega)
    have := rootC_lok v hv (by omega) 12 q_N 0 (2048 - rt v) w (by decide) (Nat.le_of_ble_eq_true rfl) (by have := rt_pos (v := v) (by omega); omega) (by omega)
    rw [show rt v + (2048 - rt v) = 2048 by omega] at this
    exact this
theorem rootR_lok (v : Nat) (hv : v ≤ 4000000) : ∀ d N a b (w : q_W), b - a ≤ d → d < N → a ≤ rt v → rt v ≤ b → b ≤ 2000 → q_it N fX11_root_h6 (fun _ _ _ _ => none) (nI v) (nI a) (nI b) w = some (nI (rt v), w) := by
  have hi := rt_is v
  intro d
  induction d with
  | zero =>
    intro N a b w h1 h2 h3 h4 h5
    obtain ⟨N, rfl⟩ : ∃ M, N = M + 1 := ⟨N - 1, by omega⟩
    rw [q_itS, fX11_root_h6, if_pos (by rw [nI_leI (by omega) (by omega)]; omega), show a = rt v by omega]
  | succ d ih =>
    intro N a b w h1 h2 h3 h4 h5
    obtain ⟨N, rfl⟩ : ∃ M, N = M + 1 := ⟨N - 1, by omega⟩
    by_cases hab : b ≤ a
    · rw [q_itS, fX11_root_h6, if_pos (by rw [nI_leI (by omega) (by omega)]; omega), show a = rt v by omega]
    · rw [q_itS, fX11_root_h6, if_neg (by rw [nI_leI (by omega) (by omega)]; omega), q_lt_eq, nI_add, nI_1, show (2 : Int32) = nI 2 from rfl, pk_div (by omega) (by decide) (by decide)]
      obtain ⟨m, hm⟩ : ∃ m, (a + b + 1) / 2 = m := ⟨_, rfl⟩
      rw [hm, pk_mul]
      have hmm : m * m ≤ 2000 * 2000 := Nat.mul_le_mul (by omega) (by omega)
      unfold fX11_root_n35
      by_cases hlt : v < m * m
      · have := isRt_lt hi hlt
        rw [if_pos (by rw [nI_ltI (by omega) (by omega)]; omega), q_lt_eq, show (1 : Int32) = nI 1 from rfl, pk_sub (by omega)]
        exact ih N a (m - 1) w (by omega) (by omega) (by omega) (by omega) (by omega)
      · have := isRt_le hi (show m * m ≤ v by omega)
        rw [if_neg (by rw [nI_ltI (by omega) (by omega)]; omega)]
        exact ih N m b w (by omega) (by omega) (by omega) (by omega) (by omega)
theorem rootR_ok (v : Nat) (hv : v ≤ 4000000) (w : q_W) : fX11_root (nI v) w = some (nI (rt v), w) := by
  unfold fX11_root fX11_root_l6
  exact rootR_lok v hv 2000 q_N 0 2000 w (by omega) (Nat.le_of_ble_eq_true rfl) (by omega) (rt_le (by omega)) (by omega)
/-- |by| at most 1023 -/
def small (x : Int32) (m : Nat) : Prop := ∃ a, a ≤ m ∧ (x = nI a ∨ x = 0 - nI a)
theorem chk_iff (x lo hi : Int32) : chk x lo hi = true ↔ lo.toInt ≤ x.toInt ∧ x.toInt ≤ hi.toInt := by
  unfold chk
  rw [Bool.and_eq_true, Bool.not_eq_true', decide_eq_false_iff_not, decide_eq_true_iff, i_lt, i_le]
  omega
theorem chk_nI {x : Int32} {lo hi : Nat} (h : chk x (nI lo) (nI hi) = true) (hh : hi < 2 ^ 31) (hl : lo < 2 ^ 31) : ∃ a, lo ≤ a ∧ a ≤ hi ∧ x = nI a := by
  rw [chk_iff, nI_toInt hh, nI_toInt hl] at h
  obtain ⟨j, hj, rfl⟩ := nI_of (x := x) (by rw [i_lt]; have : (0 : Int32).toInt = 0 := rfl; omega)
  rw [nI_toInt hj] at h
  exact ⟨j, by omega, by omega, rfl⟩
theorem chk_small {x : Int32} (h : chk x (-1023) 1023 = true) : small x 1023 := by
  rw [chk_iff, show ((-1023 : Int32)).toInt = -1023 from rfl, show ((1023 : Int32)).toInt = 1023 from rfl] at h
  by_cases h0 : x < 0
  · refine ⟨(-x.toInt).toNat, by omega, Or.inr ?_⟩
    rw [i_eq, Int32.toInt_sub, nI_toInt (by omega), show (0 : Int32).toInt = 0 from rfl]
    rw [i_lt, show (0 : Int32).toInt = 0 from rfl] at h0
    rw [Int.bmod_eq_of_le (by omega) (by omega)]
    omega
  · obtain ⟨j, hj, rfl⟩ := nI_of h0
    rw [nI_toInt hj] at h
    exact ⟨j, by omega, Or.inl rfl⟩
theorem neg_toInt {a : Nat} (h : a < 2 ^ 31) : (0 - nI a).toInt = -(a : Int) := by
  rw [Int32.toInt_sub, nI_toInt h, show (0 : Int32).toInt = 0 from rfl]
  rw [Int.bmod_eq_of_le (by omega) (by omega)]
  omega
theorem negdiv {a d : Nat} (ha : a < 2 ^ 31) (h0 : 0 < d) (hd : d < 2 ^ 31) : (0 - nI a) / nI d = 0 - nI (a / d) := by
  have h1 : a / d ≤ a := Nat.div_le_self _ _
  rw [i_eq, neg_toInt (by omega), Int32.toInt_div, neg_toInt ha, nI_toInt hd, Int.neg_tdiv, ← Int.ofNat_tdiv]
  generalize a / d = q at h1 ⊢
  rw [Int.bmod_eq_of_le (by omega) (by omega)]
theorem small_div {x : Int32} {m d : Nat} (hm : m < 2 ^ 31) (h : small x m) (h0 : 0 < d) (hd : d < 2 ^ 31) (e : Nat) (he0 : 0 < e) (he : d * e < 2 ^ 31) : (x / nI d) / nI e = x / nI (d * e) := by
  obtain ⟨a, ha, rfl | rfl⟩ := h
  · have h1 : a / d ≤ a := Nat.div_le_self _ _
    have h2 : e ≤ d * e := Nat.le_mul_of_pos_left e h0
    rw [pk_div (by omega) h0 hd, pk_div (by omega) he0 (by omega), pk_div (by omega) (Nat.mul_pos h0 he0) he, Nat.div_div_eq_div_mul]
  · have h1 : a / d ≤ a := Nat.div_le_self _ _
    have h2 : e ≤ d * e := Nat.le_mul_of_pos_left e h0
    rw [negdiv (by omega) h0 hd, negdiv (by omega) he0 (by omega), negdiv (by omega) (Nat.mul_pos h0 he0) he, Nat.div_div_eq_div_mul]
theorem small_div0 {x : Int32} {m d : Nat} (h : small x m) (hd : m < d) (hd2 : d < 2 ^ 31) : x / nI d = 0 := by
  obtain ⟨a, ha, rfl | rfl⟩ := h
  · rw [pk_div (by omega) (by omega) hd2, Nat.div_eq_of_lt (by omega)]; rfl
  · rw [negdiv (by omega) (by omega) hd2, Nat.div_eq_of_lt (by omega)]; rfl
/-- a tooth's drag, far from it -/
def tooth (f h : Nat) (x : Int32) : Int32 := if f / h ≤ 10 then x / nI (2 ^ (f / h)) else 0
theorem shl_ok (q : Nat) (h : q ≤ 10) : (1 : Int32) <<< (nI q &&& 31) = nI (2 ^ q) := by
  have : q = 0 ∨ q = 1 ∨ q = 2 ∨ q = 3 ∨ q = 4 ∨ q = 5 ∨ q = 6 ∨ q = 7 ∨ q = 8 ∨ q = 9 ∨ q = 10 := by omega
  rcases this with rfl | rfl | rfl | rfl | rfl | rfl | rfl | rfl | rfl | rfl | rfl <;> decide
theorem pow_bd {q m : Nat} (h : q ≤ m) : 2 ^ q ≤ 2 ^ m := Nat.pow_le_pow_right (by decide) h
theorem toothC_n {f h : Nat} (hf : f < 2 ^ 31) (hh : h < 2 ^ 31) (h0 : 0 < h) (x : Int32) (w : q_W) : fX0_toothDrag_n16 x (nI h) (nI f) w = some (tooth f h x, w) := by
  have h1 : f / h ≤ f := Nat.div_le_self _ _
  unfold fX0_toothDrag_n16 tooth
  rw [if_neg (nI_ne0 h0 hh), q_lt_eq, pk_div hf h0 hh]
  by_cases hq : f / h ≤ 10
  · have := pow_bd hq
    have hp : 0 < 2 ^ (f / h) := Nat.pow_pos (by decide)
    rw [if_pos (by rw [show (10 : Int32) = nI 10 from rfl, nI_leI (by omega) (by omega)]; exact hq), if_pos hq, q_lt_eq, shl_ok _ hq, if_neg (nI_ne0 hp (by omega))]
  · rw [if_neg (by rw [show (10 : Int32) = nI 10 from rfl, nI_leI (by omega) (by omega)]; exact hq), if_neg hq]
theorem toothC_pos {f h : Nat} (hf : f < 2 ^ 31) (hh : h < 2 ^ 31) (h0 : 0 < h) (x : Int32) (w : q_W) : fX0_toothDrag (nI f) x (nI h) w = some (tooth f h x, w) := by
  unfold fX0_toothDrag
  rw [if_pos (show (0 : Int32) < nI h from nI_lt (a := 0) h0 hh), if_pos (nI_pos' hf), toothC_n hf hh h0]
theorem toothC_neg {f h : Nat} (hf : f < 2 ^ 31) (hf0 : 0 < f) (hh : h < 2 ^ 31) (h0 : 0 < h) (x : Int32) (w : q_W) : fX0_toothDrag (0 - nI f) x (nI h) w = some (tooth f h x, w) := by
  unfold fX0_toothDrag
  have e : (0 : Int32) - (0 - nI f) = nI f := by
    rw [i_eq, Int32.toInt_sub, neg_toInt hf, nI_toInt hf, show (0 : Int32).toInt = 0 from rfl, Int.bmod_eq_of_le (by omega) (by omega)]
    omega
  rw [if_pos (show (0 : Int32) < nI h from nI_lt (a := 0) h0 hh), if_neg, e, toothC_n hf hh h0]
  rw [i_le, neg_toInt hf, show (0 : Int32).toInt = 0 from rfl]
  omega
theorem dragR_lok (x : Int32) (t : Nat) (hx : small x 1023) (ht : t < 2 ^ 31) : ∀ d N k (w : q_W), k + d = min t 11 → d < N → q_it N fX11_drag_h10 (fun _ _ _ _ => none) (x / nI (2 ^ k)) (nI t) (nI k) w = some (x / nI (2 ^ (min t 11)), w) := by
  intro d
  induction d with
  | zero =>
    intro N k w h1 h2
    obtain ⟨N, rfl⟩ : ∃ M, N = M + 1 := ⟨N - 1, by omega⟩
    rw [q_itS, fX11_drag_h10, show min t 11 = k by omega]
    by_cases htk : t ≤ k
    · rw [if_pos (by rw [nI_leI (by omega) (by omega)]; exact htk)]
    · rw [if_neg (by rw [nI_leI (by omega) (by omega)]; exact htk), if_pos (by rw [show (11 : Int32) = nI 11 from rfl, nI_leI (by omega) (by omega)]; omega)]
  | succ d ih =>
    intro N k w h1 h2
    obtain ⟨N, rfl⟩ : ∃ M, N = M + 1 := ⟨N - 1, by omega⟩
    have hp := pow_bd (show k ≤ 11 by omega)
    have hp0 : 0 < 2 ^ k := Nat.pow_pos (by decide)
    rw [q_itS, fX11_drag_h10, if_neg (by rw [nI_leI (by omega) (by omega)]; omega), if_neg (by rw [show (11 : Int32) = nI 11 from rfl, nI_leI (by omega) (by omega)]; omega), q_lt_eq, q_lt_eq, nI_1, show (2 : Int32) = nI 2 from rfl, small_div (by decide) hx hp0 (by omega) 2 (by decide) (by omega), ← Nat.pow_succ]
    exact ih N (k + 1) w (by omega) (by omega)
theorem dragR_ok {f h : Nat} (hf : f < 2 ^ 31) (hh : h < 2 ^ 31) (h0 : 0 < h) {x : Int32} (hx : small x 1023) (w : q_W) : fX11_drag x (nI h) (nI f) w = some (tooth f h x, w) := by
  have h1 : f / h ≤ f := Nat.div_le_self _ _
  unfold fX11_drag fX11_drag_l10
  rw [if_neg (nI_ne0 h0 hh), q_lt_eq, pk_div hf h0 hh]
  have e := dragR_lok x (f / h) hx (by omega) (min (f / h) 11) q_N 0 w (by omega) (Nat.lt_of_le_of_lt (show min (f / h) 11 ≤ 11 by omega) (Nat.le_of_ble_eq_true rfl))
  have e1 : x / nI (2 ^ 0) = x := by
    obtain ⟨a, ha, rfl | rfl⟩ := hx
    · rw [pk_div (by omega) (by decide) (by decide), Nat.pow_zero, Nat.div_one]
    · rw [negdiv (by omega) (by decide) (by decide), Nat.pow_zero, Nat.div_one]
  rw [e1, nI_0] at e
  rw [e]
  unfold tooth
  by_cases hq : f / h ≤ 10
  · rw [if_pos hq, show min (f / h) 11 = f / h by omega]
  · rw [if_neg hq, show min (f / h) 11 = 11 by omega, small_div0 hx (by decide) (by decide)]
