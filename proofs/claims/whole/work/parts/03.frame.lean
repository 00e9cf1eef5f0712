/-! ===== a frame of my own over the kit: a world as functions, one judgement q_J a place in a method, one rule an instruction.
 What a method does is a Lean function into Option (none: nothing is claimed); q_J says that the machine does what the function answers ===== -/
abbrev q_W : Type := (Nat → Nat → Int32) × (Nat → Nat → Nat) × (Nat → Nat → Int64)
abbrev q_S : Type := Nat × (Nat → Nat) × (Nat → Nat) × (Nat → Nat → Nat)
abbrev q_X : Type := va_G × (Nat → ClassId) × (Nat → Nat)
abbrev q_M : Type := String × MethodName × ByteArray × Nat × Option FieldType
def q_tb : List Cond := lw_tbl.filter goodWord
theorem q_in {w : Cond} (h : w ∈ lw_tbl) (g : goodWord w = true) : w ∈ q_tb := List.mem_filter.mpr ⟨h, g⟩
theorem q_tb_good : ∀ w ∈ q_tb, goodWord w = true := fun _ h => (List.mem_filter.mp h).2
theorem q_subW {ws : List Cond} (ps : List Nat) (hp : ws = ps.filterMap (fun i => lw_tbl[i]?)) (h : ws.all goodWord = true) : ∀ w ∈ ws, w ∈ q_tb := by
  intro w hw
  have h1 := List.all_eq_true.mp h w hw
  rw [hp] at hw
  obtain ⟨i, -, hi⟩ := List.mem_filterMap.mp hw
  exact q_in (List.mem_of_getElem? hi) h1
def q_tys (X : q_X) : List (ClassId × FieldType) := [(X.2.1 0, .int), (X.2.1 1, .byte), (X.2.1 2, .boolean), (X.2.1 3, .long)]
def q_cv (X : q_X) (v : Value) : Value := match v with
  | .ref a => .ref (X.2.2 a)
  | v => v
def q_fv (X : q_X) (S : q_S) (w : q_W) (q k : Nat) : Value := match q_rf (S.2.1 q) k with
  | 0 => .int (w.1 q k)
  | 1 => .ref (X.2.2 (S.2.2.2 q k))
  | 2 => .ref (X.2.2 (w.2.1 q k))
  | _ => .long (w.2.2 q k)
def q_fs (X : q_X) (S : q_S) (w : q_W) (q : Nat) : List Value := (List.range (q_nf (S.2.1 q))).map (q_fv X S w q)
def q_ce (X : q_X) (S : q_S) (w : q_W) (q : Nat) : va_E :=
  if S.2.1 q < 100 then .inr (S.2.1 q, q_fs X S w q) else if S.2.1 q = 103 then .inl (X.2.1 3, S.2.2.1 q, .inr (.inl (w.2.2 q))) else .inl (X.2.1 (S.2.1 q - 100), S.2.2.1 q, .inl (w.1 q))
def q_ws (X : q_X) (S : q_S) (w : q_W) : va_W := (List.range S.1).map fun q => (X.2.2 q, q_ce X S w q)
def q_A (X : q_X) (S : q_S) (sz : Nat) : Nat → Prop := fun a => (∃ k, k < S.1 ∧ a = X.2.2 k) ∨ sz ≤ a
def q_ok (X : q_X) (S : q_S) : Prop := (∀ i j, i < S.1 → j < S.1 → X.2.2 i = X.2.2 j → i = j) ∧ ∀ q, S.2.1 q < 200 → q < S.1
def q_sn (j : Nat) : String := match j with
  | 0 => "LENGTHS"
  | 1 => "LEAST"
  | _ => "GREATEST"
def q_stab (j : Nat) : List Int32 := match j with
  | 0 => [4, 4, 6, 3, 1, 1]
  | 1 => [0, 0, 1, 0, 0, 0, 0, 0, -1023, 1, 0, 0, 0, 0, 1, 1, -1023, 1, 0, 2, -1023, 0, 0, 0, 0, 0, 0, 0, 0, 0]
  | _ => [1023, 1023, 512, 7, 0, 0, 1, 1023, 1023, 1023, 0, 0, 1, 1023, 1023, 20, 1023, 1023, 1, 1024, 1023, 0, 0, 0, 63, 0, 0, 0, 0, 0]
/-- the bytes of the two texts (0: the words, 1: the signs) -/
def q_sby (i : Nat) : List Int32 := match i with
  | 0 => [112, 97, 116, 116, 101, 114, 110, 32, 101, 110, 100, 32, 100, 114, 111, 112, 32, 108, 105, 110, 101, 32, 99, 111, 109, 98, 32, 119, 97, 118, 101, 32, 102, 111, 114, 32, 116, 111, 32, 105, 102, 32, 101, 108, 115, 101, 32, 100, 111, 32, 120, 32, 121, 32, 111, 114, 32, 97, 110, 100, 32]
  | _ => [59, 44, 43, 45, 42, 47, 37, 61, 60, 40, 41]
def q_stx (i : Nat) : String := match i with
  | 0 => "pattern end drop line comb wave for to if else do x y or and "
  | _ => ";,+-*/%=<()"
def q_six (i : Nat) : Nat := match i with
  | 0 => 23
  | _ => 85
def q_str (X : q_X) (A : Nat → Prop) (s : State) : Prop := vk_S 2 [61, 11] [q_sby 0, q_sby 1] (fun i => X.2.2 (1100 + i)) (fun i => X.2.2 (1110 + i)) A s s.heap ∧ (∀ i, i < 2 → vk_R "MarbleBath$Scanner" (q_six i) (q_stx i) (X.2.2 (1100 + i)) s) ∧ va_Z "java/lang/String" "COMPACT_STRINGS" "Z" (.int 1) A s s.heap ∧ (va_Z "jdk/internal/util/Preconditions" "SIOOBE_FORMATTER" "Ljava/util/function/BiFunction;" .null A s s.heap ∨ va_Z "jdk/internal/util/Preconditions" "SIOOBE_FORMATTER" "Ljava/util/function/BiFunction;" (.ref (X.2.2 1120)) A s s.heap)
def q_st (X : q_X) (A : Nat → Prop) (s : State) : Prop := (∀ j, j < 3 → va_Z "MarbleBath$Rows" (q_sn j) "[I" (.ref (X.2.2 (1000 + j))) A s s.heap ∧ va_T .int (X.2.2 (1000 + j)) (q_stab j).length (fun i => .int ((q_stab j).getD i 0)) A s s.heap) ∧ q_str X A s
def q_R (d : Nat) : Room := { frames := d, cells := 0, slots := 0, locals := 100 * d }
def q_wm (M : q_M) : List Cond := .code M.2.1 M.2.2.1 M.2.2.2.1 M.2.2.2.2 :: q_tb
def q_C (X : q_X) (S : q_S) (M : q_M) (A : Nat → Prop) (p : Program) (s : State) (m : MethodId) (args : Array Value) (meth : Method) (c : Code) : Prop :=
  p.tables.exec = Jvm.exec ∧ c.code = M.2.2.1 ∧ c.maxLocals = M.2.2.2.1 ∧ s.vm.findClass M.1 = some m.cls ∧ (∀ w ∈ q_wm M, w.before args s = true) ∧ meth.sig.returnType = M.2.2.2.2 ∧ meth.locks = false ∧ va_K X.1 q_cl (q_tys X) s ∧ q_ok X S ∧ q_st X A s
def q_Q (X : q_X) (S : q_S) (A : Nat → Prop) (v : Option Value) (w : q_W) : Array Value → State → Outcome → State → Prop := fun _ st oc t => (oc = .returned (v.map (q_cv X)) ∧ va_P X.1 q_cl (q_ws X S w) t.heap) ∧ va_F A st t
def q_J (X : q_X) (S : q_S) (l : Launch) (M : q_M) (d : Nat) {ρ : Type} (tv : ρ → Option Value) (pc : Nat) (lv : List (Nat × Value)) (st : List Value) (w : q_W) (o : Option (ρ × q_W)) : Prop :=
  ∀ (r : ρ) (w' : q_W), o = some (r, w') → ∀ (p : Program) (e : Env) (s : State) (m : MethodId) (args : Array Value) (below : List Frame) (meth : Method) (c : Code), q_C X S M (q_A X S s.heap.size) p s m args meth c →
    ∀ (H : Heap) (locs : List Loc) (ls : Array Slot), va_P X.1 q_cl (q_ws X S w) H → va_S (q_A X S s.heap.size) s.heap H locs → lv_has ls M.2.2.2.1 (lv.map fun q => (q.1, q_cv X q.2)) →
      W p l e (q_R d) s m args below meth c H locs 0 0 (MQ below (q_Q X S (q_A X S s.heap.size) (tv r) w') args s 0 0 (q_A X S s.heap.size)) (F0 m pc ls (st.map (q_cv X)))
def q_WP (X : q_X) (S : q_S) (sz : Nat) (w : q_W) (U : State) : Prop := va_P X.1 q_cl (q_ws X S w) U.heap ∧ va_K X.1 q_cl (q_tys X) U ∧ q_ok X S ∧ q_st X (q_A X S sz) U
def q_Ct (X : q_X) (S : q_S) (l : Launch) (M : q_M) (d : Nat) {ρ : Type} (tv : ρ → Option Value) (av : List Value) (w : q_W) (o : Option (ρ × q_W)) : Prop :=
  ∀ (r : ρ) (w' : q_W), o = some (r, w') → ∀ sz : Nat, Met l M.2.1 (q_wm M) (q_R d) (va_Pc (av.map (q_cv X)) (fun U => U.heap.size = sz ∧ q_WP X S sz w U)) (q_Q X S (q_A X S sz) (tv r) w') 0 0 (q_A X S sz)
-- the functions' own words
def q_lt {α β : Type} (a : α) (f : α → β) : β := f a
def q_b {ρ σ : Type} (o : Option (ρ × q_W)) (k : ρ → q_W → Option σ) : Option σ := match o with
  | none => none
  | some (r, w) => k r w
def q_it {α : Type} (n : Nat) (F : α → α) (b : α) : α := match n with
  | 0 => b
  | n + 1 => F (q_it n F b)
def q_N : Nat := 4000000000
def q_ix (i : Int32) : Nat := i.toNatClampNeg
abbrev q_inb (i : Int32) (n : Nat) : Prop := 0 ≤ i ∧ i.toNatClampNeg < n
theorem q_inb_in {i : Int32} {n : Nat} (h : q_inb i n) : vp_in i n := by
  intro z
  rcases z with z | z
  · have h1 := h.1
    rw [Int32.le_iff_toInt_le] at h1
    rw [Int32.lt_iff_toInt_lt] at z
    omega
  · exact absurd h.2 (by omega)
theorem q_it_ind {α : Type} (P : α → Prop) (F : α → α) (b : α) (hb : P b) (hs : ∀ r, P r → P (F r)) : ∀ n, P (q_it n F b)
  | 0 => hb
  | n + 1 => hs _ (q_it_ind P F b hb hs n)
def q_sI (w : q_W) (q k : Nat) (v : Int32) : q_W := (fun a b => if a = q ∧ b = k then v else w.1 a b, w.2)
def q_sR (w : q_W) (q k : Nat) (v : Nat) : q_W := (w.1, fun a b => if a = q ∧ b = k then v else w.2.1 a b, w.2.2)
def q_sL (w : q_W) (q k : Nat) (v : Int64) : q_W := (w.1, w.2.1, fun a b => if a = q ∧ b = k then v else w.2.2 a b)
def q_tI : Int32 → Option Value := fun r => some (.int r)
def q_tL : Int64 → Option Value := fun r => some (.long r)
def q_tR : Nat → Option Value := fun r => some (.ref r)
def q_tV : Unit → Option Value := fun _ => none
-- worlds
theorem q_ws_len (X : q_X) (S : q_S) (w : q_W) : (q_ws X S w).length = S.1 := by simp [q_ws]
theorem q_ws_at (X : q_X) (S : q_S) (w : q_W) {q : Nat} (h : q < S.1) : (q_ws X S w)[q]? = some (X.2.2 q, q_ce X S w q) := by
  simp [q_ws, h]
theorem q_ws_in {X : q_X} {S : q_S} {w : q_W} {k : Nat} {x : Nat × va_E} (h : (q_ws X S w)[k]? = some x) : k < S.1 ∧ x = (X.2.2 k, q_ce X S w k) := by
  have hl := (List.getElem?_eq_some_iff.mp h).1
  rw [q_ws_len] at hl
  rw [q_ws_at X S w hl] at h
  exact ⟨hl, (Option.some.inj h).symm⟩
theorem q_ws_D {X : q_X} {S : q_S} (w : q_W) (sz : Nat) (h : q_ok X S) : va_D (q_A X S sz) (q_ws X S w) := by
  refine ⟨fun i j p q hi hj hpq => ?_, fun k q hk => ?_⟩
  · obtain ⟨h1, rfl⟩ := q_ws_in hi
    obtain ⟨h2, rfl⟩ := q_ws_in hj
    exact h.1 i j h1 h2 hpq
  · obtain ⟨h1, rfl⟩ := q_ws_in hk
    exact Or.inl ⟨k, h1, rfl⟩
theorem q_ws_set {X : q_X} {S : q_S} {w w' : q_W} {q : Nat} {e : va_E} (hq : q < S.1) (he : q_ce X S w' q = e) (ho : ∀ k, k < S.1 → k ≠ q → q_ce X S w' k = q_ce X S w k) : (q_ws X S w).set q (X.2.2 q, e) = q_ws X S w' := by
  apply List.ext_getElem?
  intro k
  by_cases hk : k < S.1
  · rw [q_ws_at X S w' hk]
    by_cases hkq : k = q
    · subst hkq
      rw [List.getElem?_set_self (by rw [q_ws_len]; exact hk), he]
    · rw [List.getElem?_set_ne (Ne.symm hkq), q_ws_at X S w hk, ho k hk hkq]
  · rw [List.getElem?_eq_none (by simp [q_ws]; omega), List.getElem?_eq_none (by simp [q_ws]; omega)]
theorem q_ce_o {X : q_X} {S : q_S} {w : q_W} {q ci : Nat} (h : S.2.1 q = ci) (hc : ci < 100) : q_ce X S w q = .inr (ci, q_fs X S w q) := by
  subst h
  simp [q_ce, hc]
theorem q_ce_i {X : q_X} {S : q_S} {w : q_W} {q t : Nat} (h : S.2.1 q = 100 + t) (ht : t < 3) : q_ce X S w q = .inl (X.2.1 t, S.2.2.1 q, .inl (w.1 q)) := by
  have h1 : ¬ (100 + t < 100) := by omega
  have h2 : ¬ (100 + t = 103) := by omega
  have h3 : 100 + t - 100 = t := by omega
  simp [q_ce, h, h1, h2, h3]
theorem q_ce_l {X : q_X} {S : q_S} {w : q_W} {q : Nat} (h : S.2.1 q = 103) : q_ce X S w q = .inl (X.2.1 3, S.2.2.1 q, .inr (.inl (w.2.2 q))) := by
  simp [q_ce, h]
theorem q_fs_at {X : q_X} {S : q_S} {w : q_W} {q k ci : Nat} (h : S.2.1 q = ci) (hk : k < q_nf ci) : (q_fs X S w q)[k]? = some (q_fv X S w q k) := by
  subst h
  simp [q_fs, hk]
theorem q_ce_ne {X : q_X} {S : q_S} {w w' : q_W} {k : Nat} (h1 : ∀ j, w'.1 k j = w.1 k j) (h2 : ∀ j, w'.2.1 k j = w.2.1 k j) (h3 : ∀ j, w'.2.2 k j = w.2.2 k j) : q_ce X S w' k = q_ce X S w k := by
  have e1 : w'.1 k = w.1 k := funext h1
  have e3 : w'.2.2 k = w.2.2 k := funext h3
  have ef : q_fs X S w' k = q_fs X S w k := by
    unfold q_fs
    congr 1
    funext j
    unfold q_fv
    rw [h1, h2, h3]
  unfold q_ce
  rw [e1, e3, ef]
theorem q_fs_set {X : q_X} {S : q_S} {w w' : q_W} {q k ci : Nat} {v : Value} (h : S.2.1 q = ci) (hv : q_fv X S w' q k = v) (ho : ∀ j, j ≠ k → q_fv X S w' q j = q_fv X S w q j) : (q_fs X S w q).set k v = q_fs X S w' q := by
  subst h
  apply List.ext_getElem?
  intro j
  unfold q_fs
  by_cases hj : j < q_nf (S.2.1 q)
  · by_cases hjk : j = k
    · subst hjk
      rw [List.getElem?_set_self (by simp; exact hj)]
      simp [hj, hv]
    · rw [List.getElem?_set_ne (Ne.symm hjk)]
      simp [hj, ho j hjk]
  · rw [List.getElem?_eq_none (by simp; omega), List.getElem?_eq_none (by simp; omega)]
theorem q_A_in {X : q_X} {S : q_S} {sz q : Nat} (h : q < S.1) : q_A X S sz (X.2.2 q) := Or.inl ⟨q, h, rfl⟩
