/-! ===== the rules: one an instruction ===== -/
def q_d (M : q_M) (pc n : Nat) (ins : Instr) (nx : Nat) : Prop := decode M.2.2.1 pc = .ok (ins, n) ∧ nx = pc + n
def q_FL (own : String) (idx ci k : Nat) : Prop := ci < 100 ∧ ∃ (C : String) (T : u_T) (N : Nat), q_cl[ci]? = some (C, T, N) ∧ N = q_nf ci ∧ k < N ∧ (∀ w ∈ u_ws C T N, w ∈ q_tb) ∧ Cond.fieldLink own idx (T k).1 (T k).2.1 (T k).2.2.1 ∈ q_tb
def q_FP (own : String) (idx ci k : Nat) (ty : FieldType) : Prop := ci < 100 ∧ ∃ (C : String) (T : u_T) (N : Nat) (ty0 : Nat → FieldType), q_cl[ci]? = some (C, T, N) ∧ N = q_nf ci ∧ k < N ∧ (∀ w ∈ u_ws C T N, w ∈ q_tb) ∧ Cond.fieldLink own idx (T k).1 (T k).2.1 (T k).2.2.1 ∈ q_tb ∧
  (∀ k, k < N → parseFieldDescriptor (T k).2.2.1 = some (ty0 k)) ∧ (∀ a, a < N → ∀ b, b < N → a ≠ b → (T a).2.1 ≠ (T b).2.1) ∧ (T k).2.2.2 = false ∧ parseFieldDescriptor (T k).2.2.1 = some ty
def q_CV (own : String) (idx : Nat) (M : q_M) (n : Nat) : Prop := Cond.methodLink own idx M.2.1 ∈ q_tb ∧ Cond.instanceMethod M.2.1 ∈ q_tb ∧ Cond.selects M.2.1.cls M.2.1 M.2.1 ∈ q_tb ∧ Cond.initialized M.2.1.cls ∈ q_tb ∧ Cond.code M.2.1 M.2.2.1 M.2.2.2.1 M.2.2.2.2 ∈ q_tb ∧
  (M.2.1.cls ≠ "java/lang/invoke/MethodHandle" ∧ M.2.1.cls ≠ "java/lang/invoke/VarHandle" ∧ (parseMethodDescriptor M.2.1.desc).map (fun d => d.parameters.length) = some n) ∧ M.2.2.2.1 ≤ 80
def q_CS (own : String) (idx : Nat) (M : q_M) (n : Nat) : Prop := Cond.methodLink own idx M.2.1 ∈ q_tb ∧ Cond.static M.2.1 ∈ q_tb ∧ Cond.initialized M.2.1.cls ∈ q_tb ∧ Cond.code M.2.1 M.2.2.1 M.2.2.2.1 M.2.2.2.2 ∈ q_tb ∧
  (M.2.1.cls ≠ "java/lang/invoke/MethodHandle" ∧ M.2.1.cls ≠ "java/lang/invoke/VarHandle" ∧ (parseMethodDescriptor M.2.1.desc).map (fun d => d.parameters.length) = some n) ∧ M.2.2.2.1 ≤ 80
theorem q_cat (X : q_X) (v : Value) : (q_cv X v).category = v.category := by cases v <;> rfl
theorem q_cats (X : q_X) (st : List Value) : ((st.map (q_cv X)).map fun v => v.category) = st.map fun v => v.category := by
  rw [List.map_map]
  exact List.map_congr_left fun v _ => q_cat X v
theorem q_lvat {X : q_X} {lv : List (Nat × Value)} {j i : Nat} {v : Value} (h : lv[j]? = some (i, v)) : (lv.map fun q => (q.1, q_cv X q.2))[j]? = some (i, q_cv X v) := by
  rw [List.getElem?_map, h]; rfl
theorem q_filt {X : q_X} (lv : List (Nat × Value)) (P : Nat → Nat → Bool) : (lv.map fun q => (q.1, q_cv X q.2)).filter (fun q => P q.1 q.2.category) = (lv.filter (fun q => P q.1 q.2.category)).map fun q => (q.1, q_cv X q.2) := by
  induction lv with
  | nil => rfl
  | cons a t ih =>
    simp only [List.map_cons, List.filter_cons, q_cat, ih]
    split <;> rfl
theorem q_sl_len (X : q_X) (av : List Value) : (lg_sl (av.map (q_cv X))).length = (lg_sl av).length := by
  unfold lg_sl
  induction av with
  | nil => rfl
  | cons a t ih =>
    simp only [List.map_cons, List.flatMap_cons, List.length_append, ih, q_cat]
    split <;> simp
theorem q_args (X : q_X) (av : List Value) : ∀ i, lv_args i (av.map (q_cv X)) = (lv_args i av).map fun q => (q.1, q_cv X q.2) := by
  induction av with
  | nil => intro i; rfl
  | cons a t ih =>
    intro i
    simp only [List.map_cons, lv_args, q_cat, ih]
theorem q_fv0 {X : q_X} {S : q_S} {w : q_W} {q k ci : Nat} (hq : S.2.1 q = ci) (hk : q_rf ci k = 0) : q_fv X S w q k = .int (w.1 q k) := by
  subst hq; simp only [q_fv, hk]
theorem q_fv1 {X : q_X} {S : q_S} {w : q_W} {q k ci : Nat} (hq : S.2.1 q = ci) (hk : q_rf ci k = 1) : q_fv X S w q k = .ref (X.2.2 (S.2.2.2 q k)) := by
  subst hq; simp only [q_fv, hk]
theorem q_fv2 {X : q_X} {S : q_S} {w : q_W} {q k ci : Nat} (hq : S.2.1 q = ci) (hk : q_rf ci k = 2) : q_fv X S w q k = .ref (X.2.2 (w.2.1 q k)) := by
  subst hq; simp only [q_fv, hk]
theorem q_fv3 {X : q_X} {S : q_S} {w : q_W} {q k ci : Nat} (hq : S.2.1 q = ci) (hk : q_rf ci k = 3) : q_fv X S w q k = .long (w.2.2 q k) := by
  subst hq; simp only [q_fv, hk]
theorem q_fvn {X : q_X} {S : q_S} {w w' : q_W} {q j : Nat} (h1 : w'.1 q j = w.1 q j) (h2 : w'.2.1 q j = w.2.1 q j) (h3 : w'.2.2 q j = w.2.2 q j) : q_fv X S w' q j = q_fv X S w q j := by
  unfold q_fv; rw [h1, h2, h3]
theorem q_set_I {X : q_X} {S : q_S} {w : q_W} {q k ci : Nat} {v : Int32} (hn : q < S.1) (hq : S.2.1 q = ci) (hc : ci < 100) (hk : q_rf ci k = 0) : (q_ws X S w).set q (X.2.2 q, .inr (ci, (q_fs X S w q).set k (.int v))) = q_ws X S (q_sI w q k v) := by
  refine q_ws_set hn ?_ (fun j _ hj => q_ce_ne (fun i => ?_) (fun _ => rfl) (fun _ => rfl))
  · rw [q_ce_o hq hc]
    congr 2
    refine (q_fs_set (w := w) (w' := q_sI w q k v) hq ?_ (fun j hj => q_fvn ?_ rfl rfl)).symm
    · rw [q_fv0 hq hk]; simp [q_sI]
    · simp [q_sI, hj]
  · simp [q_sI, hj]
theorem q_set_R {X : q_X} {S : q_S} {w : q_W} {q k ci v : Nat} (hn : q < S.1) (hq : S.2.1 q = ci) (hc : ci < 100) (hk : q_rf ci k = 2) : (q_ws X S w).set q (X.2.2 q, .inr (ci, (q_fs X S w q).set k (.ref (X.2.2 v)))) = q_ws X S (q_sR w q k v) := by
  refine q_ws_set hn ?_ (fun j _ hj => q_ce_ne (fun _ => rfl) (fun i => ?_) (fun _ => rfl))
  · rw [q_ce_o hq hc]
    congr 2
    refine (q_fs_set (w := w) (w' := q_sR w q k v) hq ?_ (fun j hj => q_fvn rfl ?_ rfl)).symm
    · rw [q_fv2 hq hk]; simp [q_sR]
    · simp [q_sR, hj]
  · simp [q_sR, hj]
theorem q_set_L {X : q_X} {S : q_S} {w : q_W} {q k ci : Nat} {v : Int64} (hn : q < S.1) (hq : S.2.1 q = ci) (hc : ci < 100) (hk : q_rf ci k = 3) : (q_ws X S w).set q (X.2.2 q, .inr (ci, (q_fs X S w q).set k (.long v))) = q_ws X S (q_sL w q k v) := by
  refine q_ws_set hn ?_ (fun j _ hj => q_ce_ne (fun _ => rfl) (fun _ => rfl) (fun i => ?_))
  · rw [q_ce_o hq hc]
    congr 2
    refine (q_fs_set (w := w) (w' := q_sL w q k v) hq ?_ (fun j hj => q_fvn rfl rfl ?_)).symm
    · rw [q_fv3 hq hk]; simp [q_sL]
    · simp [q_sL, hj]
  · simp [q_sL, hj]
theorem q_set_A {X : q_X} {S : q_S} {w : q_W} {q t j : Nat} {v : Int32} (hn : q < S.1) (hq : S.2.1 q = 100 + t) (ht : t < 3) : (q_ws X S w).set q (X.2.2 q, .inl (X.2.1 t, S.2.2.1 q, .inl (upd (w.1 q) j v))) = q_ws X S (q_sI w q j v) := by
  refine q_ws_set hn ?_ (fun j _ hj => q_ce_ne (fun i => ?_) (fun _ => rfl) (fun _ => rfl))
  · rw [q_ce_i hq ht]
    congr 4
    funext i
    simp [q_sI, upd]
  · simp [q_sI, hj]
theorem q_set_AL {X : q_X} {S : q_S} {w : q_W} {q j : Nat} {v : Int64} (hn : q < S.1) (hq : S.2.1 q = 103) : (q_ws X S w).set q (X.2.2 q, .inl (X.2.1 3, S.2.2.1 q, .inr (.inl (vp_updL (w.2.2 q) j v)))) = q_ws X S (q_sL w q j v) := by
  refine q_ws_set hn ?_ (fun j _ hj => q_ce_ne (fun _ => rfl) (fun _ => rfl) (fun i => ?_))
  · rw [q_ce_l hq]
    congr 5
    funext i
    simp [q_sL, vp_updL]
  · simp [q_sL, hj]
theorem q_A_le {X : q_X} {S : q_S} {a b : Nat} (h : a ≤ b) : ∀ q, q_A X S b q → q_A X S a q := fun q z => z.elim Or.inl (fun z => Or.inr (Nat.le_trans h z))
theorem q_st_go {X : q_X} {S : q_S} {s U : State} {H : Heap} {locs : List Loc} (h : q_st X (q_A X S s.heap.size) s) (hS : va_S (q_A X S s.heap.size) s.heap H locs) (hW : s.WarmedH U.vm) (hU : U.heap = H) : q_st X (q_A X S H.size) U := by
  subst hU
  have hvm := hW.alike
  obtain ⟨h0, h3, h4, h5, h6⟩ := h
  refine ⟨fun j hj => ?_, ((h3.kept hS.2.1).moved hvm).narrow (q_A_le hS.1), fun i hi => vk_R.warm hW (h4 i hi), ((h5.kept hS.2.1).moved hvm).narrow (q_A_le hS.1), h6.imp (fun z => ((z.kept hS.2.1).moved hvm).narrow (q_A_le hS.1)) (fun z => ((z.kept hS.2.1).moved hvm).narrow (q_A_le hS.1))⟩
  obtain ⟨h1, h2⟩ := h0 j hj
  exact ⟨((h1.kept hS.2.1).moved hvm).narrow (q_A_le hS.1), ((h2.kept hS.2.1).moved hvm).narrow (q_A_le hS.1)⟩
theorem q_st_mv {X : q_X} {A : Nat → Prop} {s U : State} (h : q_st X A s) (hvm : U.vm = s.vm) (hU : U.heap = s.heap) : q_st X A U := by
  have ha : s.vm.Alike U.vm := by rw [hvm]; exact Vm.Alike.refl _
  obtain ⟨h0, h3, h4, h5, h6⟩ := h
  rw [← hU] at h3 h5 h6
  refine ⟨fun j hj => ?_, h3.moved ha, fun i hi => vk_R.same hvm (h4 i hi), h5.moved ha, h6.imp (fun z => z.moved ha) (fun z => z.moved ha)⟩
  obtain ⟨h1, h2⟩ := h0 j hj
  rw [← hU] at h1 h2
  exact ⟨h1.moved ha, h2.moved ha⟩
section QR
variable {X : q_X} {S : q_S} {l : Launch} {M : q_M} {d : Nat} {ρ : Type} {tv : ρ → Option Value} {pc nx : Nat} {lv : List (Nat × Value)} {st : List Value} {w : q_W} {o : Option (ρ × q_W)}
theorem q_none : q_J X S l M d tv pc lv st w none := by
  intro r w' ho; cases ho
theorem q_ck {P : Prop} [Decidable P] (k : P → q_J X S l M d tv pc lv st w o) : q_J X S l M d tv pc lv st w (if P then o else none) := by
  by_cases h : P
  · rw [if_pos h]; exact k h
  · rw [if_neg h]; exact q_none
theorem q_sub {lv' : List (Nat × Value)} (ks : List Nat) (h : lv_pick lv ks = lv') (k : q_J X S l M d tv pc lv' st w o) : q_J X S l M d tv pc lv st w o := by
  intro r w' ho p e s m args below meth c C H locs ls hP hS hl
  refine k r w' ho p e s m args below meth c C H locs ls hP hS (lv_sub hl ks ?_)
  rw [← h]
  unfold lv_pick
  rw [List.map_filterMap]
  congr 1
  funext i
  rw [List.getElem?_map]
theorem q_ltW {f : q_W → Option (ρ × q_W)} (k : ∀ w1, q_J X S l M d tv pc lv st w1 (f w1)) : q_J X S l M d tv pc lv st w (q_lt w f) := k w
theorem q_ltI {a : Int32} {f : Int32 → Option (ρ × q_W)} (k : ∀ y, q_J X S l M d tv pc lv (.int y :: st) w (f y)) : q_J X S l M d tv pc lv (.int a :: st) w (q_lt a f) := k a
theorem q_ltL {a : Int64} {f : Int64 → Option (ρ × q_W)} (k : ∀ y, q_J X S l M d tv pc lv (.long y :: st) w (f y)) : q_J X S l M d tv pc lv (.long a :: st) w (q_lt a f) := k a

theorem q_iconst {n : Int} {v : Int32} (hd : q_d M pc 1 (.iconst n) nx) (hv : Int32.ofInt n = v) (k : q_J X S l M d tv nx lv (.int v :: st) w o) : q_J X S l M d tv pc lv (st) w o := by
  obtain ⟨hd, rfl⟩ := hd
  intro r w' ho p e s m args below meth c C H locs ls hP hS hl
  exact lv_iconst C.1 C.2.1 hd hv (k r w' ho p e s m args below meth c C H locs ls hP hS hl)
theorem q_bipush {n : Int} {v : Int32} (hd : q_d M pc 2 (.bipush n) nx) (hv : (Int8.ofInt n).toInt32 = v) (k : q_J X S l M d tv nx lv (.int v :: st) w o) : q_J X S l M d tv pc lv (st) w o := by
  obtain ⟨hd, rfl⟩ := hd
  intro r w' ho p e s m args below meth c C H locs ls hP hS hl
  exact lv_bipush C.1 C.2.1 hd hv (k r w' ho p e s m args below meth c C H locs ls hP hS hl)
theorem q_sipush {n : Int} {v : Int32} (hd : q_d M pc 3 (.sipush n) nx) (hv : (Int16.ofInt n).toInt32 = v) (k : q_J X S l M d tv nx lv (.int v :: st) w o) : q_J X S l M d tv pc lv (st) w o := by
  obtain ⟨hd, rfl⟩ := hd
  intro r w' ho p e s m args below meth c C H locs ls hP hS hl
  exact lv_sipush C.1 C.2.1 hd hv (k r w' ho p e s m args below meth c C H locs ls hP hS hl)
theorem q_lconst {n : Fin 2} {v : Int64} (hd : q_d M pc 1 (.lconst n) nx) (hv : Int64.ofNat (n : Nat) = v) (k : q_J X S l M d tv nx lv (.long v :: st) w o) : q_J X S l M d tv pc lv (st) w o := by
  obtain ⟨hd, rfl⟩ := hd
  intro r w' ho p e s m args below meth c C H locs ls hP hS hl
  exact lv_lconst C.1 C.2.1 hd hv (k r w' ho p e s m args below meth c C H locs ls hP hS hl)
theorem q_ldc {idx : Nat} {v : Int32} (hd : q_d M pc 2 (.ldc idx) nx) (hw : Cond.constant M.1 idx v ∈ q_tb) (k : q_J X S l M d tv nx lv (.int v :: st) w o) : q_J X S l M d tv pc lv (st) w o := by
  obtain ⟨hd, rfl⟩ := hd
  intro r w' ho p e s m args below meth c C H locs ls hP hS hl
  exact lv_ldc C.1 C.2.1 C.2.2.2.1 (C.2.2.2.2.1 _ (List.mem_cons_of_mem _ hw)) hd (k r w' ho p e s m args below meth c C H locs ls hP hS hl)
theorem q_ldc2 {idx : Nat} {v : Int64} (hd : q_d M pc 3 (.ldc2_w idx) nx) (hw : Cond.constantLong M.1 idx v ∈ q_tb) (k : q_J X S l M d tv nx lv (.long v :: st) w o) : q_J X S l M d tv pc lv (st) w o := by
  obtain ⟨hd, rfl⟩ := hd
  intro r w' ho p e s m args below meth c C H locs ls hP hS hl
  exact lv_ldc2 C.1 C.2.1 C.2.2.2.1 (C.2.2.2.2.1 _ (List.mem_cons_of_mem _ hw)) hd (k r w' ho p e s m args below meth c C H locs ls hP hS hl)
theorem q_iload_n {n : Fin 4} {i : Nat} {x : Int32} (j : Nat) (hd : q_d M pc 1 (.iload_n n) nx) (hi : (n : Nat) = i) (hj : lv[j]? = some (i, .int x)) (k : q_J X S l M d tv nx lv (.int x :: st) w o) : q_J X S l M d tv pc lv (st) w o := by
  obtain ⟨hd, rfl⟩ := hd
  intro r w' ho p e s m args below meth c C H locs ls hP hS hl
  exact lv_iload_n C.1 C.2.1 hd hi (lv_at hl j (q_lvat hj)) (k r w' ho p e s m args below meth c C H locs ls hP hS hl)
theorem q_iload {i : Nat} {x : Int32} (j : Nat) (hd : q_d M pc 2 (.iload i) nx) (hj : lv[j]? = some (i, .int x)) (k : q_J X S l M d tv nx lv (.int x :: st) w o) : q_J X S l M d tv pc lv (st) w o := by
  obtain ⟨hd, rfl⟩ := hd
  intro r w' ho p e s m args below meth c C H locs ls hP hS hl
  exact lv_iload C.1 C.2.1 hd (lv_at hl j (q_lvat hj)) (k r w' ho p e s m args below meth c C H locs ls hP hS hl)
theorem q_istore_n {n : Fin 4} {i : Nat} {x : Int32} {lv' : List (Nat × Value)} (hd : q_d M pc 1 (.istore_n n) nx) (hi : (n : Nat) = i) (hn : i < M.2.2.2.1) (hl0 : (i, Value.int x) :: lv.filter (fun q => !(q.1 == i) && !(q.1 + 1 == i && q.2.category == 2)) = lv') (k : q_J X S l M d tv nx lv' st w o) : q_J X S l M d tv pc lv (.int x :: st) w o := by
  obtain ⟨hd, rfl⟩ := hd
  intro r w' ho p e s m args below meth c C H locs ls hP hS hl
  have hz : (i, q_cv X (Value.int x)) :: (lv.map fun q => (q.1, q_cv X q.2)).filter (fun q => !(q.1 == i) && !(q.1 + 1 == i && q.2.category == 2)) = lv'.map fun q => (q.1, q_cv X q.2) := by
    rw [← hl0, q_filt lv (fun a b => !(a == i) && !(a + 1 == i && b == 2))]; rfl
  exact lv_istore_n C.1 C.2.1 hd hi hl hn hz (fun ls hl => k r w' ho p e s m args below meth c C H locs ls hP hS hl)
theorem q_istore {i : Nat} {x : Int32} {lv' : List (Nat × Value)} (hd : q_d M pc 2 (.istore i) nx) (hn : i < M.2.2.2.1) (hl0 : (i, Value.int x) :: lv.filter (fun q => !(q.1 == i) && !(q.1 + 1 == i && q.2.category == 2)) = lv') (k : q_J X S l M d tv nx lv' st w o) : q_J X S l M d tv pc lv (.int x :: st) w o := by
  obtain ⟨hd, rfl⟩ := hd
  intro r w' ho p e s m args below meth c C H locs ls hP hS hl
  have hz : (i, q_cv X (Value.int x)) :: (lv.map fun q => (q.1, q_cv X q.2)).filter (fun q => !(q.1 == i) && !(q.1 + 1 == i && q.2.category == 2)) = lv'.map fun q => (q.1, q_cv X q.2) := by
    rw [← hl0, q_filt lv (fun a b => !(a == i) && !(a + 1 == i && b == 2))]; rfl
  exact lv_istore C.1 C.2.1 hd hl hn hz (fun ls hl => k r w' ho p e s m args below meth c C H locs ls hP hS hl)
theorem q_lload_n {n : Fin 4} {i : Nat} {x : Int64} (j : Nat) (hd : q_d M pc 1 (.lload_n n) nx) (hi : (n : Nat) = i) (hj : lv[j]? = some (i, .long x)) (k : q_J X S l M d tv nx lv (.long x :: st) w o) : q_J X S l M d tv pc lv (st) w o := by
  obtain ⟨hd, rfl⟩ := hd
  intro r w' ho p e s m args below meth c C H locs ls hP hS hl
  exact lv_lload_n C.1 C.2.1 hd hi (lv_at hl j (q_lvat hj)) (k r w' ho p e s m args below meth c C H locs ls hP hS hl)
theorem q_lload {i : Nat} {x : Int64} (j : Nat) (hd : q_d M pc 2 (.lload i) nx) (hj : lv[j]? = some (i, .long x)) (k : q_J X S l M d tv nx lv (.long x :: st) w o) : q_J X S l M d tv pc lv (st) w o := by
  obtain ⟨hd, rfl⟩ := hd
  intro r w' ho p e s m args below meth c C H locs ls hP hS hl
  exact lv_lload C.1 C.2.1 hd (lv_at hl j (q_lvat hj)) (k r w' ho p e s m args below meth c C H locs ls hP hS hl)
theorem q_lstore_n {n : Fin 4} {i : Nat} {x : Int64} {lv' : List (Nat × Value)} (hd : q_d M pc 1 (.lstore_n n) nx) (hi : (n : Nat) = i) (hn : i + 1 < M.2.2.2.1) (hl0 : (i, Value.long x) :: lv.filter (fun q => !(q.1 == i) && (!(q.1 == i + 1) && !(q.1 + 1 == i && q.2.category == 2))) = lv') (k : q_J X S l M d tv nx lv' st w o) : q_J X S l M d tv pc lv (.long x :: st) w o := by
  obtain ⟨hd, rfl⟩ := hd
  intro r w' ho p e s m args below meth c C H locs ls hP hS hl
  have hz : (i, q_cv X (Value.long x)) :: (lv.map fun q => (q.1, q_cv X q.2)).filter (fun q => !(q.1 == i) && (!(q.1 == i + 1) && !(q.1 + 1 == i && q.2.category == 2))) = lv'.map fun q => (q.1, q_cv X q.2) := by
    rw [← hl0, q_filt lv (fun a b => !(a == i) && (!(a == i + 1) && !(a + 1 == i && b == 2)))]; rfl
  exact lv_lstore_n C.1 C.2.1 hd hi hl hn hz (fun ls hl => k r w' ho p e s m args below meth c C H locs ls hP hS hl)
theorem q_lstore {i : Nat} {x : Int64} {lv' : List (Nat × Value)} (hd : q_d M pc 2 (.lstore i) nx) (hn : i + 1 < M.2.2.2.1) (hl0 : (i, Value.long x) :: lv.filter (fun q => !(q.1 == i) && (!(q.1 == i + 1) && !(q.1 + 1 == i && q.2.category == 2))) = lv') (k : q_J X S l M d tv nx lv' st w o) : q_J X S l M d tv pc lv (.long x :: st) w o := by
  obtain ⟨hd, rfl⟩ := hd
  intro r w' ho p e s m args below meth c C H locs ls hP hS hl
  have hz : (i, q_cv X (Value.long x)) :: (lv.map fun q => (q.1, q_cv X q.2)).filter (fun q => !(q.1 == i) && (!(q.1 == i + 1) && !(q.1 + 1 == i && q.2.category == 2))) = lv'.map fun q => (q.1, q_cv X q.2) := by
    rw [← hl0, q_filt lv (fun a b => !(a == i) && (!(a == i + 1) && !(a + 1 == i && b == 2)))]; rfl
  exact lv_lstore C.1 C.2.1 hd hl hn hz (fun ls hl => k r w' ho p e s m args below meth c C H locs ls hP hS hl)
theorem q_aload_n {n : Fin 4} {i : Nat} {x : Nat} (j : Nat) (hd : q_d M pc 1 (.aload_n n) nx) (hi : (n : Nat) = i) (hj : lv[j]? = some (i, .ref x)) (k : q_J X S l M d tv nx lv (.ref x :: st) w o) : q_J X S l M d tv pc lv (st) w o := by
  obtain ⟨hd, rfl⟩ := hd
  intro r w' ho p e s m args below meth c C H locs ls hP hS hl
  exact lv_aload_n C.1 C.2.1 hd hi (lv_at hl j (q_lvat hj)) (k r w' ho p e s m args below meth c C H locs ls hP hS hl)
theorem q_aload {i : Nat} {x : Nat} (j : Nat) (hd : q_d M pc 2 (.aload i) nx) (hj : lv[j]? = some (i, .ref x)) (k : q_J X S l M d tv nx lv (.ref x :: st) w o) : q_J X S l M d tv pc lv (st) w o := by
  obtain ⟨hd, rfl⟩ := hd
  intro r w' ho p e s m args below meth c C H locs ls hP hS hl
  exact lv_aload C.1 C.2.1 hd (lv_at hl j (q_lvat hj)) (k r w' ho p e s m args below meth c C H locs ls hP hS hl)
theorem q_astore_n {n : Fin 4} {i : Nat} {x : Nat} {lv' : List (Nat × Value)} (hd : q_d M pc 1 (.astore_n n) nx) (hi : (n : Nat) = i) (hn : i < M.2.2.2.1) (hl0 : (i, Value.ref x) :: lv.filter (fun q => !(q.1 == i) && !(q.1 + 1 == i && q.2.category == 2)) = lv') (k : q_J X S l M d tv nx lv' st w o) : q_J X S l M d tv pc lv (.ref x :: st) w o := by
  obtain ⟨hd, rfl⟩ := hd
  intro r w' ho p e s m args below meth c C H locs ls hP hS hl
  have hz : (i, q_cv X (Value.ref x)) :: (lv.map fun q => (q.1, q_cv X q.2)).filter (fun q => !(q.1 == i) && !(q.1 + 1 == i && q.2.category == 2)) = lv'.map fun q => (q.1, q_cv X q.2) := by
    rw [← hl0, q_filt lv (fun a b => !(a == i) && !(a + 1 == i && b == 2))]; rfl
  exact lv_astore_n C.1 C.2.1 hd hi hl hn hz (fun ls hl => k r w' ho p e s m args below meth c C H locs ls hP hS hl)
theorem q_astore {i : Nat} {x : Nat} {lv' : List (Nat × Value)} (hd : q_d M pc 2 (.astore i) nx) (hn : i < M.2.2.2.1) (hl0 : (i, Value.ref x) :: lv.filter (fun q => !(q.1 == i) && !(q.1 + 1 == i && q.2.category == 2)) = lv') (k : q_J X S l M d tv nx lv' st w o) : q_J X S l M d tv pc lv (.ref x :: st) w o := by
  obtain ⟨hd, rfl⟩ := hd
  intro r w' ho p e s m args below meth c C H locs ls hP hS hl
  have hz : (i, q_cv X (Value.ref x)) :: (lv.map fun q => (q.1, q_cv X q.2)).filter (fun q => !(q.1 == i) && !(q.1 + 1 == i && q.2.category == 2)) = lv'.map fun q => (q.1, q_cv X q.2) := by
    rw [← hl0, q_filt lv (fun a b => !(a == i) && !(a + 1 == i && b == 2))]; rfl
  exact lv_astore C.1 C.2.1 hd hl hn hz (fun ls hl => k r w' ho p e s m args below meth c C H locs ls hP hS hl)
theorem q_iinc {i : Nat} {n : Int} {x v : Int32} {lv' : List (Nat × Value)} (j : Nat) (hd : q_d M pc 3 (.iinc i n) nx) (hj : lv[j]? = some (i, .int x)) (hv : x + Int32.ofInt n = v) (hn : i < M.2.2.2.1) (hl0 : (i, Value.int v) :: lv.filter (fun q => !(q.1 == i) && !(q.1 + 1 == i && q.2.category == 2)) = lv') (k : q_J X S l M d tv nx lv' st w o) : q_J X S l M d tv pc lv st w o := by
  obtain ⟨hd, rfl⟩ := hd
  intro r w' ho p e s m args below meth c C H locs ls hP hS hl
  have hz : (i, q_cv X (Value.int v)) :: (lv.map fun q => (q.1, q_cv X q.2)).filter (fun q => !(q.1 == i) && !(q.1 + 1 == i && q.2.category == 2)) = lv'.map fun q => (q.1, q_cv X q.2) := by
    rw [← hl0, q_filt lv (fun a b => !(a == i) && !(a + 1 == i && b == 2))]; rfl
  exact lv_iinc C.1 C.2.1 hd hl (k := j) (q_lvat hj) hv hn hz (fun ls hl => k r w' ho p e s m args below meth c C H locs ls hP hS hl)
theorem q_iadd {x y : Int32} (hd : q_d M pc 1 (.iadd) nx) (k : q_J X S l M d tv nx lv (.int (x + y) :: st) w o) : q_J X S l M d tv pc lv (.int y :: .int x :: st) w o := by
  obtain ⟨hd, rfl⟩ := hd
  intro r w' ho p e s m args below meth c C H locs ls hP hS hl
  exact lv_iadd C.1 C.2.1 hd (k r w' ho p e s m args below meth c C H locs ls hP hS hl)
theorem q_isub {x y : Int32} (hd : q_d M pc 1 (.isub) nx) (k : q_J X S l M d tv nx lv (.int (x - y) :: st) w o) : q_J X S l M d tv pc lv (.int y :: .int x :: st) w o := by
  obtain ⟨hd, rfl⟩ := hd
  intro r w' ho p e s m args below meth c C H locs ls hP hS hl
  exact lv_isub C.1 C.2.1 hd (k r w' ho p e s m args below meth c C H locs ls hP hS hl)
theorem q_imul {x y : Int32} (hd : q_d M pc 1 (.imul) nx) (k : q_J X S l M d tv nx lv (.int (x * y) :: st) w o) : q_J X S l M d tv pc lv (.int y :: .int x :: st) w o := by
  obtain ⟨hd, rfl⟩ := hd
  intro r w' ho p e s m args below meth c C H locs ls hP hS hl
  exact lv_imul C.1 C.2.1 hd (k r w' ho p e s m args below meth c C H locs ls hP hS hl)
theorem q_iand {x y : Int32} (hd : q_d M pc 1 (.iand) nx) (k : q_J X S l M d tv nx lv (.int (x &&& y) :: st) w o) : q_J X S l M d tv pc lv (.int y :: .int x :: st) w o := by
  obtain ⟨hd, rfl⟩ := hd
  intro r w' ho p e s m args below meth c C H locs ls hP hS hl
  exact lv_iand C.1 C.2.1 hd (k r w' ho p e s m args below meth c C H locs ls hP hS hl)
theorem q_ishl {x y : Int32} (hd : q_d M pc 1 (.ishl) nx) (k : q_J X S l M d tv nx lv (.int (x <<< (y &&& 31)) :: st) w o) : q_J X S l M d tv pc lv (.int y :: .int x :: st) w o := by
  obtain ⟨hd, rfl⟩ := hd
  intro r w' ho p e s m args below meth c C H locs ls hP hS hl
  exact lv_ishl C.1 C.2.1 hd (k r w' ho p e s m args below meth c C H locs ls hP hS hl)
theorem q_ishr {x y : Int32} (hd : q_d M pc 1 (.ishr) nx) (k : q_J X S l M d tv nx lv (.int (x >>> (y &&& 31)) :: st) w o) : q_J X S l M d tv pc lv (.int y :: .int x :: st) w o := by
  obtain ⟨hd, rfl⟩ := hd
  intro r w' ho p e s m args below meth c C H locs ls hP hS hl
  exact lv_ishr C.1 C.2.1 hd (k r w' ho p e s m args below meth c C H locs ls hP hS hl)
theorem q_iushr {x y : Int32} (hd : q_d M pc 1 (.iushr) nx) (k : q_J X S l M d tv nx lv (.int ((x.toUInt32 >>> (y.toUInt32 &&& Int32.toUInt32 31)).toInt32) :: st) w o) : q_J X S l M d tv pc lv (.int y :: .int x :: st) w o := by
  obtain ⟨hd, rfl⟩ := hd
  intro r w' ho p e s m args below meth c C H locs ls hP hS hl
  exact lv_iushr C.1 C.2.1 hd rfl (k r w' ho p e s m args below meth c C H locs ls hP hS hl)
theorem q_ineg {x : Int32} (hd : q_d M pc 1 (.ineg) nx) (k : q_J X S l M d tv nx lv (.int (0 - x) :: st) w o) : q_J X S l M d tv pc lv (.int x :: st) w o := by
  obtain ⟨hd, rfl⟩ := hd
  intro r w' ho p e s m args below meth c C H locs ls hP hS hl
  exact lv_ineg C.1 C.2.1 hd (k r w' ho p e s m args below meth c C H locs ls hP hS hl)
theorem q_ladd {x y : Int64} (hd : q_d M pc 1 (.ladd) nx) (k : q_J X S l M d tv nx lv (.long (x + y) :: st) w o) : q_J X S l M d tv pc lv (.long y :: .long x :: st) w o := by
  obtain ⟨hd, rfl⟩ := hd
  intro r w' ho p e s m args below meth c C H locs ls hP hS hl
  exact lv_ladd C.1 C.2.1 hd (k r w' ho p e s m args below meth c C H locs ls hP hS hl)
theorem q_lsub {x y : Int64} (hd : q_d M pc 1 (.lsub) nx) (k : q_J X S l M d tv nx lv (.long (x - y) :: st) w o) : q_J X S l M d tv pc lv (.long y :: .long x :: st) w o := by
  obtain ⟨hd, rfl⟩ := hd
  intro r w' ho p e s m args below meth c C H locs ls hP hS hl
  exact lv_lsub C.1 C.2.1 hd (k r w' ho p e s m args below meth c C H locs ls hP hS hl)
theorem q_lmul {x y : Int64} (hd : q_d M pc 1 (.lmul) nx) (k : q_J X S l M d tv nx lv (.long (x * y) :: st) w o) : q_J X S l M d tv pc lv (.long y :: .long x :: st) w o := by
  obtain ⟨hd, rfl⟩ := hd
  intro r w' ho p e s m args below meth c C H locs ls hP hS hl
  exact lv_lmul C.1 C.2.1 hd (k r w' ho p e s m args below meth c C H locs ls hP hS hl)
theorem q_lor {x y : Int64} (hd : q_d M pc 1 (.lor) nx) (k : q_J X S l M d tv nx lv (.long (x ||| y) :: st) w o) : q_J X S l M d tv pc lv (.long y :: .long x :: st) w o := by
  obtain ⟨hd, rfl⟩ := hd
  intro r w' ho p e s m args below meth c C H locs ls hP hS hl
  exact lv_lor C.1 C.2.1 hd (k r w' ho p e s m args below meth c C H locs ls hP hS hl)
theorem q_lshl {x : Int64} {y : Int32} (hd : q_d M pc 1 (.lshl) nx) (k : q_J X S l M d tv nx lv (.long (x <<< (y.toInt64 &&& 63)) :: st) w o) : q_J X S l M d tv pc lv (.int y :: .long x :: st) w o := by
  obtain ⟨hd, rfl⟩ := hd
  intro r w' ho p e s m args below meth c C H locs ls hP hS hl
  exact lv_lshl C.1 C.2.1 hd rfl (k r w' ho p e s m args below meth c C H locs ls hP hS hl)
theorem q_lcmp {x y : Int64} (hd : q_d M pc 1 (.lcmp) nx) (k : q_J X S l M d tv nx lv (.int (lg_cmp x y) :: st) w o) : q_J X S l M d tv pc lv (.long y :: .long x :: st) w o := by
  obtain ⟨hd, rfl⟩ := hd
  intro r w' ho p e s m args below meth c C H locs ls hP hS hl
  exact W.lcmp C.1 C.2.1 hd (k r w' ho p e s m args below meth c C H locs ls hP hS hl)
theorem q_i2l {x : Int32} (hd : q_d M pc 1 (.i2l) nx) (k : q_J X S l M d tv nx lv (.long x.toInt64 :: st) w o) : q_J X S l M d tv pc lv (.int x :: st) w o := by
  obtain ⟨hd, rfl⟩ := hd
  intro r w' ho p e s m args below meth c C H locs ls hP hS hl
  exact lv_i2l C.1 C.2.1 hd rfl (k r w' ho p e s m args below meth c C H locs ls hP hS hl)
theorem q_l2i {x : Int64} (hd : q_d M pc 1 (.l2i) nx) (k : q_J X S l M d tv nx lv (.int x.toInt32 :: st) w o) : q_J X S l M d tv pc lv (.long x :: st) w o := by
  obtain ⟨hd, rfl⟩ := hd
  intro r w' ho p e s m args below meth c C H locs ls hP hS hl
  exact lv_l2i C.1 C.2.1 hd rfl (k r w' ho p e s m args below meth c C H locs ls hP hS hl)
theorem q_i2b {x : Int32} (hd : q_d M pc 1 (.i2b) nx) (k : q_J X S l M d tv nx lv (.int x.toInt8.toInt32 :: st) w o) : q_J X S l M d tv pc lv (.int x :: st) w o := by
  obtain ⟨hd, rfl⟩ := hd
  intro r w' ho p e s m args below meth c C H locs ls hP hS hl
  exact lv_i2b C.1 C.2.1 hd rfl (k r w' ho p e s m args below meth c C H locs ls hP hS hl)
theorem q_i2c {x : Int32} (hd : q_d M pc 1 (.i2c) nx) (k : q_J X S l M d tv nx lv (.int (x.toUInt32 % 65536).toInt32 :: st) w o) : q_J X S l M d tv pc lv (.int x :: st) w o := by
  obtain ⟨hd, rfl⟩ := hd
  intro r w' ho p e s m args below meth c C H locs ls hP hS hl
  exact lv_i2c C.1 C.2.1 hd rfl (k r w' ho p e s m args below meth c C H locs ls hP hS hl)
theorem q_dup {v : Value} (hd : q_d M pc 1 (.dup) nx) (hc : v.category = 1) (k : q_J X S l M d tv nx lv (v :: v :: st) w o) : q_J X S l M d tv pc lv (v :: st) w o := by
  obtain ⟨hd, rfl⟩ := hd
  intro r w' ho p e s m args below meth c C H locs ls hP hS hl
  exact lv_dup C.1 C.2.1 hd ((q_cat X v).trans hc) (k r w' ho p e s m args below meth c C H locs ls hP hS hl)
theorem q_pop {v : Value} (hd : q_d M pc 1 (.pop) nx) (hc : v.category = 1) (k : q_J X S l M d tv nx lv (st) w o) : q_J X S l M d tv pc lv (v :: st) w o := by
  obtain ⟨hd, rfl⟩ := hd
  intro r w' ho p e s m args below meth c C H locs ls hP hS hl
  exact lv_pop C.1 C.2.1 hd ((q_cat X v).trans hc) (k r w' ho p e s m args below meth c C H locs ls hP hS hl)
theorem q_dup2 {v u : Value} (hd : q_d M pc 1 (.dup2) nx) (hc : v.category = 1) (hu : u.category = 1) (k : q_J X S l M d tv nx lv (v :: u :: v :: u :: st) w o) : q_J X S l M d tv pc lv (v :: u :: st) w o := by
  obtain ⟨hd, rfl⟩ := hd
  intro r w' ho p e s m args below meth c C H locs ls hP hS hl
  exact lv_dup2_11 C.1 C.2.1 hd ((q_cat X v).trans hc) ((q_cat X u).trans hu) (k r w' ho p e s m args below meth c C H locs ls hP hS hl)
theorem q_idiv {x y : Int32} (hd : q_d M pc 1 .idiv nx) (k : q_J X S l M d tv nx lv (.int (x / y) :: st) w o) : q_J X S l M d tv pc lv (.int y :: .int x :: st) w (if y = 0 then none else o) := by
  obtain ⟨hd, rfl⟩ := hd
  intro r w' ho p e s m args below meth c C H locs ls hP hS hl
  by_cases hy : y = 0
  · rw [if_pos hy] at ho; cases ho
  · rw [if_neg hy] at ho
    exact lv_idiv C.1 C.2.1 hd hy (k r w' ho p e s m args below meth c C H locs ls hP hS hl)
theorem q_idivc {x y : Int32} (hd : q_d M pc 1 .idiv nx) (hy : ¬ y = 0) (k : q_J X S l M d tv nx lv (.int (x / y) :: st) w o) : q_J X S l M d tv pc lv (.int y :: .int x :: st) w o := by
  obtain ⟨hd, rfl⟩ := hd
  intro r w' ho p e s m args below meth c C H locs ls hP hS hl
  exact lv_idiv C.1 C.2.1 hd hy (k r w' ho p e s m args below meth c C H locs ls hP hS hl)
theorem q_irem {x y : Int32} (hd : q_d M pc 1 .irem nx) (k : q_J X S l M d tv nx lv (.int (x - x / y * y) :: st) w o) : q_J X S l M d tv pc lv (.int y :: .int x :: st) w (if y = 0 then none else o) := by
  obtain ⟨hd, rfl⟩ := hd
  intro r w' ho p e s m args below meth c C H locs ls hP hS hl
  by_cases hy : y = 0
  · rw [if_pos hy] at ho; cases ho
  · rw [if_neg hy] at ho
    exact lv_irem C.1 C.2.1 hd hy (k r w' ho p e s m args below meth c C H locs ls hP hS hl)
theorem q_iremc {x y : Int32} (hd : q_d M pc 1 .irem nx) (hy : ¬ y = 0) (k : q_J X S l M d tv nx lv (.int (x - x / y * y) :: st) w o) : q_J X S l M d tv pc lv (.int y :: .int x :: st) w o := by
  obtain ⟨hd, rfl⟩ := hd
  intro r w' ho p e s m args below meth c C H locs ls hP hS hl
  exact lv_irem C.1 C.2.1 hd hy (k r w' ho p e s m args below meth c C H locs ls hP hS hl)
theorem q_if_eq {x : Int32} {off : Int} {tgt : Nat} {o1 o2 : Option (ρ × q_W)} (hd : q_d M pc 3 (.ifCond .eq off) nx) (ht : (pc : Int) + off = (tgt : Int)) (k1 : x = 0 → q_J X S l M d tv tgt lv st w o1) (k2 : ¬ x = 0 → q_J X S l M d tv nx lv st w o2) : q_J X S l M d tv pc lv (.int x :: st) w (if x = 0 then o1 else o2) := by
  obtain ⟨hd, rfl⟩ := hd
  intro r w' ho p e s m args below meth c C H locs ls hP hS hl
  refine lv_if_eq C.1 C.2.1 hd ht (fun z => ?_) (fun z => ?_)
  · rw [if_pos z] at ho; exact k1 z r w' ho p e s m args below meth c C H locs ls hP hS hl
  · rw [if_neg z] at ho; exact k2 z r w' ho p e s m args below meth c C H locs ls hP hS hl
theorem q_icmp_eq {x y : Int32} {off : Int} {tgt : Nat} {o1 o2 : Option (ρ × q_W)} (hd : q_d M pc 3 (.if_icmp .eq off) nx) (ht : (pc : Int) + off = (tgt : Int)) (k1 : x = y → q_J X S l M d tv tgt lv st w o1) (k2 : ¬ x = y → q_J X S l M d tv nx lv st w o2) : q_J X S l M d tv pc lv (.int y :: .int x :: st) w (if x = y then o1 else o2) := by
  obtain ⟨hd, rfl⟩ := hd
  intro r w' ho p e s m args below meth c C H locs ls hP hS hl
  refine lv_icmp_eq C.1 C.2.1 hd ht (fun z => ?_) (fun z => ?_)
  · rw [if_pos z] at ho; exact k1 z r w' ho p e s m args below meth c C H locs ls hP hS hl
  · rw [if_neg z] at ho; exact k2 z r w' ho p e s m args below meth c C H locs ls hP hS hl
theorem q_if_ne {x : Int32} {off : Int} {tgt : Nat} {o1 o2 : Option (ρ × q_W)} (hd : q_d M pc 3 (.ifCond .ne off) nx) (ht : (pc : Int) + off = (tgt : Int)) (k1 : x = 0 → q_J X S l M d tv nx lv st w o1) (k2 : ¬ x = 0 → q_J X S l M d tv tgt lv st w o2) : q_J X S l M d tv pc lv (.int x :: st) w (if x = 0 then o1 else o2) := by
  obtain ⟨hd, rfl⟩ := hd
  intro r w' ho p e s m args below meth c C H locs ls hP hS hl
  refine lv_if_ne C.1 C.2.1 hd ht (fun z => ?_) (fun z => ?_)
  · rw [if_neg z] at ho; exact k2 z r w' ho p e s m args below meth c C H locs ls hP hS hl
  · rw [if_pos z] at ho; exact k1 z r w' ho p e s m args below meth c C H locs ls hP hS hl
theorem q_icmp_ne {x y : Int32} {off : Int} {tgt : Nat} {o1 o2 : Option (ρ × q_W)} (hd : q_d M pc 3 (.if_icmp .ne off) nx) (ht : (pc : Int) + off = (tgt : Int)) (k1 : x = y → q_J X S l M d tv nx lv st w o1) (k2 : ¬ x = y → q_J X S l M d tv tgt lv st w o2) : q_J X S l M d tv pc lv (.int y :: .int x :: st) w (if x = y then o1 else o2) := by
  obtain ⟨hd, rfl⟩ := hd
  intro r w' ho p e s m args below meth c C H locs ls hP hS hl
  refine lv_icmp_ne C.1 C.2.1 hd ht (fun z => ?_) (fun z => ?_)
  · rw [if_neg z] at ho; exact k2 z r w' ho p e s m args below meth c C H locs ls hP hS hl
  · rw [if_pos z] at ho; exact k1 z r w' ho p e s m args below meth c C H locs ls hP hS hl
theorem q_if_lt {x : Int32} {off : Int} {tgt : Nat} {o1 o2 : Option (ρ × q_W)} (hd : q_d M pc 3 (.ifCond .lt off) nx) (ht : (pc : Int) + off = (tgt : Int)) (k1 : x < 0 → q_J X S l M d tv tgt lv st w o1) (k2 : ¬ x < 0 → q_J X S l M d tv nx lv st w o2) : q_J X S l M d tv pc lv (.int x :: st) w (if x < 0 then o1 else o2) := by
  obtain ⟨hd, rfl⟩ := hd
  intro r w' ho p e s m args below meth c C H locs ls hP hS hl
  refine lv_if_lt C.1 C.2.1 hd ht (fun z => ?_) (fun z => ?_)
  · rw [if_pos z] at ho; exact k1 z r w' ho p e s m args below meth c C H locs ls hP hS hl
  · rw [if_neg z] at ho; exact k2 z r w' ho p e s m args below meth c C H locs ls hP hS hl
theorem q_icmp_lt {x y : Int32} {off : Int} {tgt : Nat} {o1 o2 : Option (ρ × q_W)} (hd : q_d M pc 3 (.if_icmp .lt off) nx) (ht : (pc : Int) + off = (tgt : Int)) (k1 : x < y → q_J X S l M d tv tgt lv st w o1) (k2 : ¬ x < y → q_J X S l M d tv nx lv st w o2) : q_J X S l M d tv pc lv (.int y :: .int x :: st) w (if x < y then o1 else o2) := by
  obtain ⟨hd, rfl⟩ := hd
  intro r w' ho p e s m args below meth c C H locs ls hP hS hl
  refine lv_icmp_lt C.1 C.2.1 hd ht (fun z => ?_) (fun z => ?_)
  · rw [if_pos z] at ho; exact k1 z r w' ho p e s m args below meth c C H locs ls hP hS hl
  · rw [if_neg z] at ho; exact k2 z r w' ho p e s m args below meth c C H locs ls hP hS hl
theorem q_if_ge {x : Int32} {off : Int} {tgt : Nat} {o1 o2 : Option (ρ × q_W)} (hd : q_d M pc 3 (.ifCond .ge off) nx) (ht : (pc : Int) + off = (tgt : Int)) (k1 : 0 ≤ x → q_J X S l M d tv tgt lv st w o1) (k2 : ¬ 0 ≤ x → q_J X S l M d tv nx lv st w o2) : q_J X S l M d tv pc lv (.int x :: st) w (if 0 ≤ x then o1 else o2) := by
  obtain ⟨hd, rfl⟩ := hd
  intro r w' ho p e s m args below meth c C H locs ls hP hS hl
  refine lv_if_ge C.1 C.2.1 hd ht (fun z => ?_) (fun z => ?_)
  · rw [if_pos z] at ho; exact k1 z r w' ho p e s m args below meth c C H locs ls hP hS hl
  · rw [if_neg z] at ho; exact k2 z r w' ho p e s m args below meth c C H locs ls hP hS hl
theorem q_icmp_ge {x y : Int32} {off : Int} {tgt : Nat} {o1 o2 : Option (ρ × q_W)} (hd : q_d M pc 3 (.if_icmp .ge off) nx) (ht : (pc : Int) + off = (tgt : Int)) (k1 : y ≤ x → q_J X S l M d tv tgt lv st w o1) (k2 : ¬ y ≤ x → q_J X S l M d tv nx lv st w o2) : q_J X S l M d tv pc lv (.int y :: .int x :: st) w (if y ≤ x then o1 else o2) := by
  obtain ⟨hd, rfl⟩ := hd
  intro r w' ho p e s m args below meth c C H locs ls hP hS hl
  refine lv_icmp_ge C.1 C.2.1 hd ht (fun z => ?_) (fun z => ?_)
  · rw [if_pos z] at ho; exact k1 z r w' ho p e s m args below meth c C H locs ls hP hS hl
  · rw [if_neg z] at ho; exact k2 z r w' ho p e s m args below meth c C H locs ls hP hS hl
theorem q_if_gt {x : Int32} {off : Int} {tgt : Nat} {o1 o2 : Option (ρ × q_W)} (hd : q_d M pc 3 (.ifCond .gt off) nx) (ht : (pc : Int) + off = (tgt : Int)) (k1 : 0 < x → q_J X S l M d tv tgt lv st w o1) (k2 : ¬ 0 < x → q_J X S l M d tv nx lv st w o2) : q_J X S l M d tv pc lv (.int x :: st) w (if 0 < x then o1 else o2) := by
  obtain ⟨hd, rfl⟩ := hd
  intro r w' ho p e s m args below meth c C H locs ls hP hS hl
  refine lv_if_gt C.1 C.2.1 hd ht (fun z => ?_) (fun z => ?_)
  · rw [if_pos z] at ho; exact k1 z r w' ho p e s m args below meth c C H locs ls hP hS hl
  · rw [if_neg z] at ho; exact k2 z r w' ho p e s m args below meth c C H locs ls hP hS hl
theorem q_icmp_gt {x y : Int32} {off : Int} {tgt : Nat} {o1 o2 : Option (ρ × q_W)} (hd : q_d M pc 3 (.if_icmp .gt off) nx) (ht : (pc : Int) + off = (tgt : Int)) (k1 : y < x → q_J X S l M d tv tgt lv st w o1) (k2 : ¬ y < x → q_J X S l M d tv nx lv st w o2) : q_J X S l M d tv pc lv (.int y :: .int x :: st) w (if y < x then o1 else o2) := by
  obtain ⟨hd, rfl⟩ := hd
  intro r w' ho p e s m args below meth c C H locs ls hP hS hl
  refine lv_icmp_gt C.1 C.2.1 hd ht (fun z => ?_) (fun z => ?_)
  · rw [if_pos z] at ho; exact k1 z r w' ho p e s m args below meth c C H locs ls hP hS hl
  · rw [if_neg z] at ho; exact k2 z r w' ho p e s m args below meth c C H locs ls hP hS hl
theorem q_if_le {x : Int32} {off : Int} {tgt : Nat} {o1 o2 : Option (ρ × q_W)} (hd : q_d M pc 3 (.ifCond .le off) nx) (ht : (pc : Int) + off = (tgt : Int)) (k1 : x ≤ 0 → q_J X S l M d tv tgt lv st w o1) (k2 : ¬ x ≤ 0 → q_J X S l M d tv nx lv st w o2) : q_J X S l M d tv pc lv (.int x :: st) w (if x ≤ 0 then o1 else o2) := by
  obtain ⟨hd, rfl⟩ := hd
  intro r w' ho p e s m args below meth c C H locs ls hP hS hl
  refine lv_if_le C.1 C.2.1 hd ht (fun z => ?_) (fun z => ?_)
  · rw [if_pos z] at ho; exact k1 z r w' ho p e s m args below meth c C H locs ls hP hS hl
  · rw [if_neg z] at ho; exact k2 z r w' ho p e s m args below meth c C H locs ls hP hS hl
theorem q_icmp_le {x y : Int32} {off : Int} {tgt : Nat} {o1 o2 : Option (ρ × q_W)} (hd : q_d M pc 3 (.if_icmp .le off) nx) (ht : (pc : Int) + off = (tgt : Int)) (k1 : x ≤ y → q_J X S l M d tv tgt lv st w o1) (k2 : ¬ x ≤ y → q_J X S l M d tv nx lv st w o2) : q_J X S l M d tv pc lv (.int y :: .int x :: st) w (if x ≤ y then o1 else o2) := by
  obtain ⟨hd, rfl⟩ := hd
  intro r w' ho p e s m args below meth c C H locs ls hP hS hl
  refine lv_icmp_le C.1 C.2.1 hd ht (fun z => ?_) (fun z => ?_)
  · rw [if_pos z] at ho; exact k1 z r w' ho p e s m args below meth c C H locs ls hP hS hl
  · rw [if_neg z] at ho; exact k2 z r w' ho p e s m args below meth c C H locs ls hP hS hl
theorem q_goto {off : Int} {tgt : Nat} (hd : q_d M pc 3 (.goto off) nx) (ht : (pc : Int) + off = (tgt : Int)) (k : q_J X S l M d tv tgt lv st w o) : q_J X S l M d tv pc lv st w o := by
  obtain ⟨hd, rfl⟩ := hd
  intro r w' ho p e s m args below meth c C H locs ls hP hS hl
  exact lv_goto C.1 C.2.1 hd ht (k r w' ho p e s m args below meth c C H locs ls hP hS hl)
theorem q_lookup {dflt : Int} {ps : Array (Int × Int)} {len : Nat} {x : Int32} {off : Int} {tgt : Nat} (hd : q_d M pc len (.lookupswitch dflt ps) nx) (hp : (ps.toList.zip (ps.toList.drop 1)).all (fun (a, next) => a.1 < next.1) = true) (ho1 : Op.lookupswitch.offset ps.toList dflt x.toInt = off) (ht : (pc : Int) + off = (tgt : Int)) (k : q_J X S l M d tv tgt lv st w o) : q_J X S l M d tv pc lv (.int x :: st) w o := by
  obtain ⟨hd, rfl⟩ := hd
  intro r w' ho p e s m args below meth c C H locs ls hP hS hl
  exact lv_lookup C.1 C.2.1 hd hp ho1 ht (k r w' ho p e s m args below meth c C H locs ls hP hS hl)
theorem q_tabOut {dflt lo hi : Int} {offs : Array Int} {len : Nat} {x : Int32} {tgt : Nat} (hd : q_d M pc len (.tableswitch dflt lo hi offs) nx) (h : x.toInt < lo ∨ hi < x.toInt) (ht : (pc : Int) + dflt = (tgt : Int)) (k : q_J X S l M d tv tgt lv st w o) : q_J X S l M d tv pc lv (.int x :: st) w o := by
  obtain ⟨hd, rfl⟩ := hd
  intro r w' ho p e s m args below meth c C H locs ls hP hS hl
  exact lv_tableOut C.1 C.2.1 hd h ht (k r w' ho p e s m args below meth c C H locs ls hP hS hl)
theorem q_tabIn {dflt lo hi : Int} {offs : Array Int} {len : Nat} {x : Int32} {off : Int} {tgt : Nat} (hd : q_d M pc len (.tableswitch dflt lo hi offs) nx) (h1 : ¬ x.toInt < lo) (h2 : ¬ hi < x.toInt) (ho1 : offs[(x.toInt - lo).toNat]? = some off) (ht : (pc : Int) + off = (tgt : Int)) (k : q_J X S l M d tv tgt lv st w o) : q_J X S l M d tv pc lv (.int x :: st) w o := by
  obtain ⟨hd, rfl⟩ := hd
  intro r w' ho p e s m args below meth c C H locs ls hP hS hl
  exact lv_tableIn C.1 C.2.1 hd h1 h2 ho1 ht (k r w' ho p e s m args below meth c C H locs ls hP hS hl)

theorem q_getI {q k ci idx : Nat} (hd : q_d M pc 3 (.getfield idx) nx) (hf : q_FL M.1 idx ci k) (hq : S.2.1 q = ci) (hk : q_rf ci k = 0) (kk : q_J X S l M d tv nx lv (.int (w.1 q k) :: st) w o) : q_J X S l M d tv pc lv (.ref q :: st) w o := by
  obtain ⟨hd, rfl⟩ := hd
  obtain ⟨hc, CC, T, N, h1, h2, h3, h4, h5⟩ := hf
  intro r w' ho p e s m args below meth c C H locs ls hP hS hl
  obtain ⟨hx, hb, hml, hown, hts, hr, hlk, hK, hok, hst⟩ := id C
  have hqn : q < S.1 := hok.2 q (by rw [hq]; omega)
  exact va_get hx hb hts (fun w h => List.mem_cons_of_mem _ (h4 w h)) hown hK hP q (by rw [q_ws_at X S w hqn, q_ce_o hq hc]) h1 k h3 (hts _ (List.mem_cons_of_mem _ h5)) (fun _ h => h) ((q_fs_at hq (by rw [← h2]; exact h3)).trans (congrArg some (q_fv0 hq hk))) hd (kk r w' ho p e s m args below meth c C H locs ls hP hS hl)
theorem q_getF {q k ci idx : Nat} (hd : q_d M pc 3 (.getfield idx) nx) (hf : q_FL M.1 idx ci k) (hq : S.2.1 q = ci) (hk : q_rf ci k = 1) (kk : q_J X S l M d tv nx lv (.ref (S.2.2.2 q k) :: st) w o) : q_J X S l M d tv pc lv (.ref q :: st) w o := by
  obtain ⟨hd, rfl⟩ := hd
  obtain ⟨hc, CC, T, N, h1, h2, h3, h4, h5⟩ := hf
  intro r w' ho p e s m args below meth c C H locs ls hP hS hl
  obtain ⟨hx, hb, hml, hown, hts, hr, hlk, hK, hok, hst⟩ := id C
  have hqn : q < S.1 := hok.2 q (by rw [hq]; omega)
  exact va_get hx hb hts (fun w h => List.mem_cons_of_mem _ (h4 w h)) hown hK hP q (by rw [q_ws_at X S w hqn, q_ce_o hq hc]) h1 k h3 (hts _ (List.mem_cons_of_mem _ h5)) (fun _ h => h) ((q_fs_at hq (by rw [← h2]; exact h3)).trans (congrArg some (q_fv1 hq hk))) hd (kk r w' ho p e s m args below meth c C H locs ls hP hS hl)
theorem q_getR {q k ci idx : Nat} (hd : q_d M pc 3 (.getfield idx) nx) (hf : q_FL M.1 idx ci k) (hq : S.2.1 q = ci) (hk : q_rf ci k = 2) (kk : q_J X S l M d tv nx lv (.ref (w.2.1 q k) :: st) w o) : q_J X S l M d tv pc lv (.ref q :: st) w o := by
  obtain ⟨hd, rfl⟩ := hd
  obtain ⟨hc, CC, T, N, h1, h2, h3, h4, h5⟩ := hf
  intro r w' ho p e s m args below meth c C H locs ls hP hS hl
  obtain ⟨hx, hb, hml, hown, hts, hr, hlk, hK, hok, hst⟩ := id C
  have hqn : q < S.1 := hok.2 q (by rw [hq]; omega)
  exact va_get hx hb hts (fun w h => List.mem_cons_of_mem _ (h4 w h)) hown hK hP q (by rw [q_ws_at X S w hqn, q_ce_o hq hc]) h1 k h3 (hts _ (List.mem_cons_of_mem _ h5)) (fun _ h => h) ((q_fs_at hq (by rw [← h2]; exact h3)).trans (congrArg some (q_fv2 hq hk))) hd (kk r w' ho p e s m args below meth c C H locs ls hP hS hl)
theorem q_getL {q k ci idx : Nat} (hd : q_d M pc 3 (.getfield idx) nx) (hf : q_FL M.1 idx ci k) (hq : S.2.1 q = ci) (hk : q_rf ci k = 3) (kk : q_J X S l M d tv nx lv (.long (w.2.2 q k) :: st) w o) : q_J X S l M d tv pc lv (.ref q :: st) w o := by
  obtain ⟨hd, rfl⟩ := hd
  obtain ⟨hc, CC, T, N, h1, h2, h3, h4, h5⟩ := hf
  intro r w' ho p e s m args below meth c C H locs ls hP hS hl
  obtain ⟨hx, hb, hml, hown, hts, hr, hlk, hK, hok, hst⟩ := id C
  have hqn : q < S.1 := hok.2 q (by rw [hq]; omega)
  exact va_get hx hb hts (fun w h => List.mem_cons_of_mem _ (h4 w h)) hown hK hP q (by rw [q_ws_at X S w hqn, q_ce_o hq hc]) h1 k h3 (hts _ (List.mem_cons_of_mem _ h5)) (fun _ h => h) ((q_fs_at hq (by rw [← h2]; exact h3)).trans (congrArg some (q_fv3 hq hk))) hd (kk r w' ho p e s m args below meth c C H locs ls hP hS hl)
theorem q_putI {q k ci idx : Nat} {ty : FieldType} {v : Int32} (hd : q_d M pc 3 (.putfield idx) nx) (hf : q_FP M.1 idx ci k ty) (hq : S.2.1 q = ci) (hk : q_rf ci k = 0) (hv : narrow ty (.int v) = .int v ∧ fits ty (.int v) = true) (kk : q_J X S l M d tv nx lv st (q_sI w q k v) o) : q_J X S l M d tv pc lv (.int v :: .ref q :: st) w o := by
  obtain ⟨hd, rfl⟩ := hd
  obtain ⟨hc, CC, T, N, ty0, h1, h2, h3, h4, h5, h6, h7, h8, h9⟩ := hf
  intro r w' ho p e s m args below meth c C H locs ls hP hS hl
  obtain ⟨hx, hb, hml, hown, hts, hr, hlk, hK, hok, hst⟩ := id C
  have hqn : q < S.1 := hok.2 q (by rw [hq]; omega)
  have hl9 : k < (q_fs X S w q).length := by simp [q_fs, hq, ← h2, h3]
  refine va_put (v := .int v) hx hb hts (fun w h => List.mem_cons_of_mem _ (h4 w h)) ty0 h6 h7 hown hK hP (q_ws_D w s.heap.size hok) hS q (by rw [q_ws_at X S w hqn, q_ce_o hq hc]) h1 k h3 (hts _ (List.mem_cons_of_mem _ h5)) (fun _ h => h) h8 h9 hv.1 hv.2 hl9 hd (fun H1 locs1 hP1 hD1 hS1 => ?_)
  rw [q_set_I hqn hq hc hk] at hP1
  exact kk r w' ho p e s m args below meth c C H1 locs1 ls hP1 hS1 hl
theorem q_putR {q k ci idx : Nat} {ty : FieldType} {v : Nat} (hd : q_d M pc 3 (.putfield idx) nx) (hf : q_FP M.1 idx ci k ty) (hq : S.2.1 q = ci) (hk : q_rf ci k = 2) (hv : narrow ty (.ref (X.2.2 v)) = .ref (X.2.2 v) ∧ fits ty (.ref (X.2.2 v)) = true) (kk : q_J X S l M d tv nx lv st (q_sR w q k v) o) : q_J X S l M d tv pc lv (.ref v :: .ref q :: st) w o := by
  obtain ⟨hd, rfl⟩ := hd
  obtain ⟨hc, CC, T, N, ty0, h1, h2, h3, h4, h5, h6, h7, h8, h9⟩ := hf
  intro r w' ho p e s m args below meth c C H locs ls hP hS hl
  obtain ⟨hx, hb, hml, hown, hts, hr, hlk, hK, hok, hst⟩ := id C
  have hqn : q < S.1 := hok.2 q (by rw [hq]; omega)
  have hl9 : k < (q_fs X S w q).length := by simp [q_fs, hq, ← h2, h3]
  refine va_put (v := .ref (X.2.2 v)) hx hb hts (fun w h => List.mem_cons_of_mem _ (h4 w h)) ty0 h6 h7 hown hK hP (q_ws_D w s.heap.size hok) hS q (by rw [q_ws_at X S w hqn, q_ce_o hq hc]) h1 k h3 (hts _ (List.mem_cons_of_mem _ h5)) (fun _ h => h) h8 h9 hv.1 hv.2 hl9 hd (fun H1 locs1 hP1 hD1 hS1 => ?_)
  rw [q_set_R hqn hq hc hk] at hP1
  exact kk r w' ho p e s m args below meth c C H1 locs1 ls hP1 hS1 hl
theorem q_putL {q k ci idx : Nat} {ty : FieldType} {v : Int64} (hd : q_d M pc 3 (.putfield idx) nx) (hf : q_FP M.1 idx ci k ty) (hq : S.2.1 q = ci) (hk : q_rf ci k = 3) (hv : narrow ty (.long v) = .long v ∧ fits ty (.long v) = true) (kk : q_J X S l M d tv nx lv st (q_sL w q k v) o) : q_J X S l M d tv pc lv (.long v :: .ref q :: st) w o := by
  obtain ⟨hd, rfl⟩ := hd
  obtain ⟨hc, CC, T, N, ty0, h1, h2, h3, h4, h5, h6, h7, h8, h9⟩ := hf
  intro r w' ho p e s m args below meth c C H locs ls hP hS hl
  obtain ⟨hx, hb, hml, hown, hts, hr, hlk, hK, hok, hst⟩ := id C
  have hqn : q < S.1 := hok.2 q (by rw [hq]; omega)
  have hl9 : k < (q_fs X S w q).length := by simp [q_fs, hq, ← h2, h3]
  refine va_put (v := .long v) hx hb hts (fun w h => List.mem_cons_of_mem _ (h4 w h)) ty0 h6 h7 hown hK hP (q_ws_D w s.heap.size hok) hS q (by rw [q_ws_at X S w hqn, q_ce_o hq hc]) h1 k h3 (hts _ (List.mem_cons_of_mem _ h5)) (fun _ h => h) h8 h9 hv.1 hv.2 hl9 hd (fun H1 locs1 hP1 hD1 hS1 => ?_)
  rw [q_set_L hqn hq hc hk] at hP1
  exact kk r w' ho p e s m args below meth c C H1 locs1 ls hP1 hS1 hl
theorem q_iald {q n : Nat} {i : Int32} (hd : q_d M pc 1 .iaload nx) (hq : S.2.1 q = 100) (hn : S.2.2.1 q = n) (kk : q_J X S l M d tv nx lv (.int (w.1 q (q_ix i)) :: st) w o) [Decidable (q_inb i n)] : q_J X S l M d tv pc lv (.int i :: .ref q :: st) w (if q_inb i n then o else none) := by
  obtain ⟨hd, rfl⟩ := hd
  intro r w' ho p e s m args below meth c C H locs ls hP hS hl
  obtain ⟨hx, hb, hml, hown, hts, hr, hlk, hK, hok, hst⟩ := id C
  have hqn : q < S.1 := hok.2 q (by rw [hq]; omega)
  by_cases hi : q_inb i n
  · rw [if_pos hi] at ho
    exact va_iald hx hb hK hP q 0 (n := n) (f := w.1 q) (by rw [q_ws_at X S w hqn, q_ce_i (t := 0) hq (by omega), hn]) rfl (q_inb_in hi) hd (kk r w' ho p e s m args below meth c C H locs ls hP hS hl)
  · rw [if_neg hi] at ho; cases ho
theorem q_bald {q n : Nat} {i : Int32} (hd : q_d M pc 1 .baload nx) (hq : S.2.1 q = 101) (hn : S.2.2.1 q = n) (kk : q_J X S l M d tv nx lv (.int (w.1 q (q_ix i)) :: st) w o) [Decidable (q_inb i n)] : q_J X S l M d tv pc lv (.int i :: .ref q :: st) w (if q_inb i n then o else none) := by
  obtain ⟨hd, rfl⟩ := hd
  intro r w' ho p e s m args below meth c C H locs ls hP hS hl
  obtain ⟨hx, hb, hml, hown, hts, hr, hlk, hK, hok, hst⟩ := id C
  have hqn : q < S.1 := hok.2 q (by rw [hq]; omega)
  by_cases hi : q_inb i n
  · rw [if_pos hi] at ho
    exact va_bald hx hb hK hP q 1 (n := n) (f := w.1 q) (by rw [q_ws_at X S w hqn, q_ce_i (t := 1) hq (by omega), hn]) rfl (q_inb_in hi) hd (kk r w' ho p e s m args below meth c C H locs ls hP hS hl)
  · rw [if_neg hi] at ho; cases ho
theorem q_zald {q n : Nat} {i : Int32} (hd : q_d M pc 1 .baload nx) (hq : S.2.1 q = 102) (hn : S.2.2.1 q = n) (kk : q_J X S l M d tv nx lv (.int (w.1 q (q_ix i)) :: st) w o) [Decidable (q_inb i n)] : q_J X S l M d tv pc lv (.int i :: .ref q :: st) w (if q_inb i n then o else none) := by
  obtain ⟨hd, rfl⟩ := hd
  intro r w' ho p e s m args below meth c C H locs ls hP hS hl
  obtain ⟨hx, hb, hml, hown, hts, hr, hlk, hK, hok, hst⟩ := id C
  have hqn : q < S.1 := hok.2 q (by rw [hq]; omega)
  by_cases hi : q_inb i n
  · rw [if_pos hi] at ho
    exact va_zald hx hb hK hP q 2 (n := n) (f := w.1 q) (by rw [q_ws_at X S w hqn, q_ce_i (t := 2) hq (by omega), hn]) rfl (q_inb_in hi) hd (kk r w' ho p e s m args below meth c C H locs ls hP hS hl)
  · rw [if_neg hi] at ho; cases ho
theorem q_lald {q n : Nat} {i : Int32} (hd : q_d M pc 1 .laload nx) (hq : S.2.1 q = 103) (hn : S.2.2.1 q = n) (kk : q_J X S l M d tv nx lv (.long (w.2.2 q (q_ix i)) :: st) w o) [Decidable (q_inb i n)] : q_J X S l M d tv pc lv (.int i :: .ref q :: st) w (if q_inb i n then o else none) := by
  obtain ⟨hd, rfl⟩ := hd
  intro r w' ho p e s m args below meth c C H locs ls hP hS hl
  obtain ⟨hx, hb, hml, hown, hts, hr, hlk, hK, hok, hst⟩ := id C
  have hqn : q < S.1 := hok.2 q (by rw [hq]; omega)
  by_cases hi : q_inb i n
  · rw [if_pos hi] at ho
    exact va_lald hx hb hK hP q 3 (n := n) (f := w.2.2 q) (by rw [q_ws_at X S w hqn, q_ce_l hq, hn]) rfl (q_inb_in hi) hd (kk r w' ho p e s m args below meth c C H locs ls hP hS hl)
  · rw [if_neg hi] at ho; cases ho
theorem q_last {q n : Nat} {i : Int32} {x : Int64} (hd : q_d M pc 1 .lastore nx) (hq : S.2.1 q = 103) (hn : S.2.2.1 q = n) (kk : q_J X S l M d tv nx lv st (q_sL w q (q_ix i) x) o) [Decidable (q_inb i n)] : q_J X S l M d tv pc lv (.long x :: .int i :: .ref q :: st) w (if q_inb i n then o else none) := by
  obtain ⟨hd, rfl⟩ := hd
  intro r w' ho p e s m args below meth c C H locs ls hP hS hl
  obtain ⟨hx, hb, hml, hown, hts, hr, hlk, hK, hok, hst⟩ := id C
  have hqn : q < S.1 := hok.2 q (by rw [hq]; omega)
  by_cases hi : q_inb i n
  · rw [if_pos hi] at ho
    refine va_last hx hb hK hP (q_ws_D w s.heap.size hok) hS q 3 (n := n) (f := w.2.2 q) (by rw [q_ws_at X S w hqn, q_ce_l hq, hn]) rfl (q_inb_in hi) hd (fun H1 locs1 hP1 hD1 hS1 => ?_)
    rw [← hn, q_set_AL hqn hq] at hP1
    exact kk r w' ho p e s m args below meth c C H1 locs1 ls hP1 hS1 hl
  · rw [if_neg hi] at ho; cases ho
theorem q_iast {q n : Nat} {i x : Int32} (hd : q_d M pc 1 .iastore nx) (hq : S.2.1 q = 100) (hn : S.2.2.1 q = n) (kk : q_J X S l M d tv nx lv st (q_sI w q (q_ix i) x) o) [Decidable (q_inb i n)] : q_J X S l M d tv pc lv (.int x :: .int i :: .ref q :: st) w (if q_inb i n then o else none) := by
  obtain ⟨hd, rfl⟩ := hd
  intro r w' ho p e s m args below meth c C H locs ls hP hS hl
  obtain ⟨hx, hb, hml, hown, hts, hr, hlk, hK, hok, hst⟩ := id C
  have hqn : q < S.1 := hok.2 q (by rw [hq]; omega)
  by_cases hi : q_inb i n
  · rw [if_pos hi] at ho
    refine va_iast hx hb hK hP (q_ws_D w s.heap.size hok) hS q 0 (n := n) (f := w.1 q) (by rw [q_ws_at X S w hqn, q_ce_i (t := 0) hq (by omega), hn]) rfl (q_inb_in hi) hd (fun H1 locs1 hP1 hD1 hS1 => ?_)
    rw [← hn, q_set_A (t := 0) hqn hq (by omega)] at hP1
    exact kk r w' ho p e s m args below meth c C H1 locs1 ls hP1 hS1 hl
  · rw [if_neg hi] at ho; cases ho
theorem q_bast {q n : Nat} {i x : Int32} (hd : q_d M pc 1 .bastore nx) (hq : S.2.1 q = 101) (hn : S.2.2.1 q = n) (kk : q_J X S l M d tv nx lv st (q_sI w q (q_ix i) (vp_nar .byte x)) o) [Decidable (q_inb i n)] : q_J X S l M d tv pc lv (.int x :: .int i :: .ref q :: st) w (if q_inb i n then o else none) := by
  obtain ⟨hd, rfl⟩ := hd
  intro r w' ho p e s m args below meth c C H locs ls hP hS hl
  obtain ⟨hx, hb, hml, hown, hts, hr, hlk, hK, hok, hst⟩ := id C
  have hqn : q < S.1 := hok.2 q (by rw [hq]; omega)
  by_cases hi : q_inb i n
  · rw [if_pos hi] at ho
    refine va_bast hx hb hK hP (q_ws_D w s.heap.size hok) hS q 1 (n := n) (f := w.1 q) (by rw [q_ws_at X S w hqn, q_ce_i (t := 1) hq (by omega), hn]) rfl (q_inb_in hi) hd (fun H1 locs1 hP1 hD1 hS1 => ?_)
    rw [← hn, q_set_A (t := 1) hqn hq (by omega)] at hP1
    exact kk r w' ho p e s m args below meth c C H1 locs1 ls hP1 hS1 hl
  · rw [if_neg hi] at ho; cases ho
theorem q_zast {q n : Nat} {i x : Int32} (hd : q_d M pc 1 .bastore nx) (hq : S.2.1 q = 102) (hn : S.2.2.1 q = n) (kk : q_J X S l M d tv nx lv st (q_sI w q (q_ix i) (vp_nar .boolean x)) o) [Decidable (q_inb i n)] : q_J X S l M d tv pc lv (.int x :: .int i :: .ref q :: st) w (if q_inb i n then o else none) := by
  obtain ⟨hd, rfl⟩ := hd
  intro r w' ho p e s m args below meth c C H locs ls hP hS hl
  obtain ⟨hx, hb, hml, hown, hts, hr, hlk, hK, hok, hst⟩ := id C
  have hqn : q < S.1 := hok.2 q (by rw [hq]; omega)
  by_cases hi : q_inb i n
  · rw [if_pos hi] at ho
    refine va_zast hx hb hK hP (q_ws_D w s.heap.size hok) hS q 2 (n := n) (f := w.1 q) (by rw [q_ws_at X S w hqn, q_ce_i (t := 2) hq (by omega), hn]) rfl (q_inb_in hi) hd (fun H1 locs1 hP1 hD1 hS1 => ?_)
    rw [← hn, q_set_A (t := 2) hqn hq (by omega)] at hP1
    exact kk r w' ho p e s m args below meth c C H1 locs1 ls hP1 hS1 hl
  · rw [if_neg hi] at ho; cases ho
theorem q_alen {q n : Nat} (hd : q_d M pc 1 .arraylength nx) (hq : S.2.1 q = 100) (hn : S.2.2.1 q = n) (kk : q_J X S l M d tv nx lv (.int (Int32.ofNat n) :: st) w o) : q_J X S l M d tv pc lv (.ref q :: st) w o := by
  obtain ⟨hd, rfl⟩ := hd
  intro r w' ho p e s m args below meth c C H locs ls hP hS hl
  obtain ⟨hx, hb, hml, hown, hts, hr, hlk, hK, hok, hst⟩ := id C
  have hqn : q < S.1 := hok.2 q (by rw [hq]; omega)
  exact va_alen hx hb hK hP q 0 (x := (n, .inl (w.1 q))) (by rw [q_ws_at X S w hqn, q_ce_i (t := 0) hq (by omega), hn]) rfl rfl hd (kk r w' ho p e s m args below meth c C H locs ls hP hS hl)
theorem q_alenL {q n : Nat} (hd : q_d M pc 1 .arraylength nx) (hq : S.2.1 q = 103) (hn : S.2.2.1 q = n) (kk : q_J X S l M d tv nx lv (.int (Int32.ofNat n) :: st) w o) : q_J X S l M d tv pc lv (.ref q :: st) w o := by
  obtain ⟨hd, rfl⟩ := hd
  intro r w' ho p e s m args below meth c C H locs ls hP hS hl
  obtain ⟨hx, hb, hml, hown, hts, hr, hlk, hK, hok, hst⟩ := id C
  have hqn : q < S.1 := hok.2 q (by rw [hq]; omega)
  exact va_alen hx hb hK hP q 3 (x := (n, .inr (.inl (w.2.2 q)))) (by rw [q_ws_at X S w hqn, q_ce_l hq, hn]) rfl rfl hd (kk r w' ho p e s m args below meth c C H locs ls hP hS hl)
theorem q_gets {idx : Nat} (j : Nat) (hd : q_d M pc 3 (.getstatic idx) nx) (hj : j < 3) (hf : Cond.fieldLink M.1 idx "MarbleBath$Rows" (q_sn j) "[I" ∈ q_tb) (kk : q_J X S l M d tv nx lv (.ref (1000 + j) :: st) w o) : q_J X S l M d tv pc lv st w o := by
  obtain ⟨hd, rfl⟩ := hd
  intro r w' ho p e s m args below meth c C H locs ls hP hS hl
  obtain ⟨hx, hb, hml, hown, hts, hr, hlk, hK, hok, hst⟩ := id C
  exact va_gets hx hb (hst.1 j hj).1 hS hown (hts _ (List.mem_cons_of_mem _ hf)) (fun _ h => h) hd (kk r w' ho p e s m args below meth c C H locs ls hP hS hl)
theorem q_slen (j : Nat) {v : Int32} (hd : q_d M pc 1 .arraylength nx) (hj : j < 3) (hv : Int32.ofNat (q_stab j).length = v) (kk : q_J X S l M d tv nx lv (.int v :: st) w o) : q_J X S l M d tv pc lv (.ref (1000 + j) :: st) w o := by
  obtain ⟨hd, rfl⟩ := hd
  intro r w' ho p e s m args below meth c C H locs ls hP hS hl
  obtain ⟨hx, hb, hml, hown, hts, hr, hlk, hK, hok, hst⟩ := id C
  exact va_tlen hx hb (hst.1 j hj).2 hS hv hd (kk r w' ho p e s m args below meth c C H locs ls hP hS hl)
theorem q_sald (j : Nat) {n : Nat} {i : Int32} (hd : q_d M pc 1 .iaload nx) (hj : j < 3) (hn : (q_stab j).length = n) (kk : q_J X S l M d tv nx lv (.int ((q_stab j).getD (q_ix i) 0) :: st) w o) [Decidable (q_inb i n)] : q_J X S l M d tv pc lv (.int i :: .ref (1000 + j) :: st) w (if q_inb i n then o else none) := by
  obtain ⟨hd, rfl⟩ := hd
  subst hn
  intro r w' ho p e s m args below meth c C H locs ls hP hS hl
  obtain ⟨hx, hb, hml, hown, hts, hr, hlk, hK, hok, hst⟩ := id C
  by_cases hi : q_inb i (q_stab j).length
  · rw [if_pos hi] at ho
    exact va_ti hx hb (hst.1 j hj).2 hS (q_inb_in hi) rfl hd (kk r w' ho p e s m args below meth c C H locs ls hP hS hl)
  · rw [if_neg hi] at ho; cases ho

-- the two texts, which no cell of the world is
theorem q_ldcS {idx : Nat} (i : Nat) (hd : q_d M pc 2 (.ldc idx) nx) (hi : i < 2) (hM : M.1 = "MarbleBath$Scanner") (hx1 : q_six i = idx) (kk : q_J X S l M d tv nx lv (.ref (1100 + i) :: st) w o) : q_J X S l M d tv pc lv st w o := by
  obtain ⟨hd, rfl⟩ := hd
  subst hx1
  intro r w' ho p e s m args below meth c C H locs ls hP hS hl
  obtain ⟨hx, hb, hml, hown, hts, hr, hlk, hK, hok, hst⟩ := id C
  rw [hM] at hown
  exact va_ldcS hx hb hown (hst.2.2.1 i hi) hd (kk r w' ho p e s m args below meth c C H locs ls hP hS hl)
theorem q_sval {idx : Nat} (i : Nat) (hd : q_d M pc 3 (.getfield idx) nx) (hi : i < 2) (hf : Cond.fieldLink M.1 idx "java/lang/String" "value" "[B" ∈ q_tb) (kk : q_J X S l M d tv nx lv (.ref (1110 + i) :: st) w o) : q_J X S l M d tv pc lv (.ref (1100 + i) :: st) w o := by
  obtain ⟨hd, rfl⟩ := hd
  intro r w' ho p e s m args below meth c C H locs ls hP hS hl
  obtain ⟨hx, hb, hml, hown, hts, hr, hlk, hK, hok, hst⟩ := id C
  exact vk_getf hx hb (hst.2.1.1 i hi).2.2.1 hS hown (hts _ (List.mem_cons_of_mem _ hf)) (fun _ h => h) hd (kk r w' ho p e s m args below meth c C H locs ls hP hS hl)
theorem q_scod {idx : Nat} (i : Nat) (hd : q_d M pc 3 (.getfield idx) nx) (hi : i < 2) (hf : Cond.fieldLink M.1 idx "java/lang/String" "coder" "B" ∈ q_tb) (kk : q_J X S l M d tv nx lv (.int 0 :: st) w o) : q_J X S l M d tv pc lv (.ref (1100 + i) :: st) w o := by
  obtain ⟨hd, rfl⟩ := hd
  intro r w' ho p e s m args below meth c C H locs ls hP hS hl
  obtain ⟨hx, hb, hml, hown, hts, hr, hlk, hK, hok, hst⟩ := id C
  exact vk_getf hx hb (hst.2.1.1 i hi).2.1 hS hown (hts _ (List.mem_cons_of_mem _ hf)) (fun _ h => h) hd (kk r w' ho p e s m args below meth c C H locs ls hP hS hl)
theorem q_scmp {idx : Nat} (hd : q_d M pc 3 (.getstatic idx) nx) (hf : Cond.fieldLink M.1 idx "java/lang/String" "COMPACT_STRINGS" "Z" ∈ q_tb) (kk : q_J X S l M d tv nx lv (.int 1 :: st) w o) : q_J X S l M d tv pc lv st w o := by
  obtain ⟨hd, rfl⟩ := hd
  intro r w' ho p e s m args below meth c C H locs ls hP hS hl
  obtain ⟨hx, hb, hml, hown, hts, hr, hlk, hK, hok, hst⟩ := id C
  exact va_gets hx hb hst.2.2.2.1 hS hown (hts _ (List.mem_cons_of_mem _ hf)) (fun _ h => h) hd (kk r w' ho p e s m args below meth c C H locs ls hP hS hl)
theorem q_sblen (i : Nat) {v : Int32} (hd : q_d M pc 1 .arraylength nx) (hi : i < 2) (hv : Int32.ofNat (([61, 11] : List Nat).getD i 0) = v) (kk : q_J X S l M d tv nx lv (.int v :: st) w o) : q_J X S l M d tv pc lv (.ref (1110 + i) :: st) w o := by
  obtain ⟨hd, rfl⟩ := hd
  intro r w' ho p e s m args below meth c C H locs ls hP hS hl
  obtain ⟨hx, hb, hml, hown, hts, hr, hlk, hK, hok, hst⟩ := id C
  exact va_tlen hx hb (hst.2.1.1 i hi).2.2.2 hS hv hd (kk r w' ho p e s m args below meth c C H locs ls hP hS hl)
theorem q_sbald (k : Nat) {n : Nat} {i : Int32} (hd : q_d M pc 1 .baload nx) (hk : k < 2) (hn : ([61, 11] : List Nat).getD k 0 = n) (kk : q_J X S l M d tv nx lv (.int ((([q_sby 0, q_sby 1] : List (List Int32)).getD k []).getD (q_ix i) 0) :: st) w o) [Decidable (q_inb i n)] : q_J X S l M d tv pc lv (.int i :: .ref (1110 + k) :: st) w (if q_inb i n then o else none) := by
  obtain ⟨hd, rfl⟩ := hd
  subst hn
  intro r w' ho p e s m args below meth c C H locs ls hP hS hl
  obtain ⟨hx, hb, hml, hown, hts, hr, hlk, hK, hok, hst⟩ := id C
  by_cases hi : q_inb i (([61, 11] : List Nat).getD k 0)
  · rw [if_pos hi] at ho
    exact va_tb hx hb (hst.2.1.1 k hk).2.2.2 hS (q_inb_in hi) rfl hd (kk r w' ho p e s m args below meth c C H locs ls hP hS hl)
  · rw [if_neg hi] at ho; cases ho
end QR

theorem q_ireturn {X : q_X} {S : q_S} {l : Launch} {M : q_M} {d pc nx : Nat} {lv : List (Nat × Value)} {w : q_W} {x : Int32} (hd : q_d M pc 1 .ireturn nx) (hM : M.2.2.2.2 = some .int) : q_J X S l M d q_tI pc lv [.int x] w (some (x, w)) := by
  obtain ⟨hd, rfl⟩ := hd
  intro r w' ho p e s m args below meth c C H locs ls hP hS hl
  cases ho
  exact W.iret (v := x) C.1 C.2.1 (C.2.2.2.2.2.1.trans hM) (fun t ht hW => ⟨⟨rfl, by rw [ht]; exact hP⟩, hS.F ht⟩) hS.2.2 hd C.2.2.2.2.2.2.1
theorem q_lreturn {X : q_X} {S : q_S} {l : Launch} {M : q_M} {d pc nx : Nat} {lv : List (Nat × Value)} {w : q_W} {x : Int64} (hd : q_d M pc 1 .lreturn nx) (hM : M.2.2.2.2 = some .long) : q_J X S l M d q_tL pc lv [.long x] w (some (x, w)) := by
  obtain ⟨hd, rfl⟩ := hd
  intro r w' ho p e s m args below meth c C H locs ls hP hS hl
  cases ho
  exact W.lret (v := x) C.1 C.2.1 (C.2.2.2.2.2.1.trans hM) (fun t ht hW => ⟨⟨rfl, by rw [ht]; exact hP⟩, hS.F ht⟩) hS.2.2 hd C.2.2.2.2.2.2.1
theorem q_zret {X : q_X} {S : q_S} {l : Launch} {M : q_M} {d pc nx : Nat} {lv : List (Nat × Value)} {w : q_W} {x : Int32} (hd : q_d M pc 1 .ireturn nx) (hM : M.2.2.2.2 = some .boolean) (hx : narrow .boolean (.int x) = .int x) : q_J X S l M d q_tI pc lv [.int x] w (some (x, w)) := by
  obtain ⟨hd, rfl⟩ := hd
  intro r w' ho p e s m args below meth c C H locs ls hP hS hl
  cases ho
  exact W.zret (v := x) C.1 C.2.1 (C.2.2.2.2.2.1.trans hM) hx (fun t ht hW => ⟨⟨rfl, by rw [ht]; exact hP⟩, hS.F ht⟩) hS.2.2 hd C.2.2.2.2.2.2.1
theorem q_nb {x : Int32} (h : x = 0 ∨ x = 1) : narrow .boolean (.int x) = .int x ∧ fits .boolean (.int x) = true := by
  rcases h with rfl | rfl <;> exact ⟨rfl, rfl⟩
theorem q_return {X : q_X} {S : q_S} {l : Launch} {M : q_M} {d pc nx : Nat} {lv : List (Nat × Value)} {w : q_W} (hd : q_d M pc 1 .return_ nx) (hM : M.2.2.2.2 = none) : q_J X S l M d q_tV pc lv [] w (some ((), w)) := by
  obtain ⟨hd, rfl⟩ := hd
  intro r w' ho p e s m args below meth c C H locs ls hP hS hl
  cases ho
  exact W.vret C.1 C.2.1 (C.2.2.2.2.2.1.trans hM) (fun t ht hW => ⟨⟨rfl, by rw [ht]; exact hP⟩, hS.F ht⟩) hS.2.2 hd C.2.2.2.2.2.2.1
theorem q_areturn {X : q_X} {S : q_S} {l : Launch} {M : q_M} {d pc nx : Nat} {lv : List (Nat × Value)} {w : q_W} {x : Nat} {rt : FieldType} (hd : q_d M pc 1 .areturn nx) (hM : M.2.2.2.2 = some rt) (hrt : (∃ n, rt = .object n) ∨ ∃ t, rt = .array t) : q_J X S l M d q_tR pc lv [.ref x] w (some (x, w)) := by
  obtain ⟨hd, rfl⟩ := hd
  intro r w' ho p e s m args below meth c C H locs ls hP hS hl
  cases ho
  exact W.aret (v := .ref (X.2.2 x)) C.1 C.2.1 (C.2.2.2.2.2.1.trans hM) hrt (Or.inr ⟨_, rfl⟩) (fun t ht hW => ⟨⟨rfl, by rw [ht]; exact hP⟩, hS.F ht⟩) hS.2.2 hd C.2.2.2.2.2.2.1

