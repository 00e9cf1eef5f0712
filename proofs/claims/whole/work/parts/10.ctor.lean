/-! ===== constructors: a frame like q_J, the world a list that grows, addresses as they are ===== -/
def q_KA (h0 sz : Nat) : Nat → Prop := fun a => a = h0 ∨ sz ≤ a
def q_KR (d mc ms : Nat) : Room := { frames := d, cells := mc, slots := ms, locals := 100 * d }
def q_nest : List Cond := [.methodLinkNest RX10 9 mX9_init.2.1 RX10, .methodLinkNest RX2 11 mX6_init.2.1 RX10, .methodLinkNest RX10 25 mX6_init.2.1 RX10, .methodLinkNest RX10 41 mX8_init.2.1 RX10, .methodLinkNest RX10 55 mX4_init.2.1 RX10]
def q_KP (X : q_X) (h0 sz : Nat) (U : State) : Prop := va_K X.1 q_cl (q_tys X) U ∧ q_st X (q_KA h0 sz) U ∧ ∀ w ∈ q_nest, va_Nw w U
def q_KH (X : q_X) (M : q_M) (h0 : Nat) (p : Program) (s : State) (m : MethodId) (args : Array Value) (meth : Method) (c : Code) : Prop :=
  p.tables.exec = Jvm.exec ∧ c.code = M.2.2.1 ∧ c.maxLocals = M.2.2.2.1 ∧ s.vm.findClass M.1 = some m.cls ∧ (∀ w ∈ q_wm M, w.before args s = true) ∧ meth.sig.returnType = M.2.2.2.2 ∧ meth.locks = false ∧ meth.name = "<init>" ∧ q_KP X h0 s.heap.size s
def q_KQ (X : q_X) (A : Nat → Prop) (post : va_W → Prop) : Array Value → State → Outcome → State → Prop := fun _ st oc t => (oc = .returned none ∧ ∃ ws, post ws ∧ va_P X.1 q_cl ws t.heap ∧ va_D A ws) ∧ va_F A st t
def q_KJ (X : q_X) (l : Launch) (M : q_M) (d mc ms h0 : Nat) (post : va_W → Prop) (pc : Nat) (lv : List (Nat × Value)) (st : List Value) (ws : va_W) (c n : Nat) : Prop :=
  ∀ (p : Program) (e : Env) (s : State) (m : MethodId) (args : Array Value) (below : List Frame) (meth : Method) (cd : Code), q_KH X M h0 p s m args meth cd →
    ∀ (H : Heap) (locs : List Loc) (ls : Array Slot), va_P X.1 q_cl ws H → va_D (q_KA h0 s.heap.size) ws → va_S (q_KA h0 s.heap.size) s.heap H locs → lv_has ls M.2.2.2.1 lv →
      W p l e (q_KR d mc ms) s m args below meth cd H locs c n (MQ below (q_KQ X (q_KA h0 s.heap.size) post) args s mc ms (q_KA h0 s.heap.size)) (F0 m pc ls st)
def q_KC (X : q_X) (l : Launch) (M : q_M) (d mc ms h0 : Nat) (av : List Value) (ci : Nat) (f0 : List Value) (post : va_W → Prop) : Prop :=
  ∀ sz : Nat, Met l M.2.1 (q_wm M) (q_KR d mc ms) (va_Pc (.ref h0 :: av) (fun U => U.heap.size = sz ∧ va_P X.1 q_cl [(h0, .inr (ci, f0))] U.heap ∧ q_KP X h0 sz U)) (q_KQ X (q_KA h0 sz) post) mc ms (q_KA h0 sz)
theorem q_Kintro {X : q_X} {l : Launch} {M : q_M} {d mc ms h0 : Nat} {av : List Value} {ci : Nat} {f0 : List Value} {post : va_W → Prop} {lv : List (Nat × Value)} (hy : plainName M.2.1.cls = true) (hown : M.1 = M.2.1.cls) (hini : M.2.1.name = "<init>") (hn : (lg_sl (.ref h0 :: av)).length ≤ M.2.2.2.1) (hlv : lv_args 0 (.ref h0 :: av) = lv) (k : q_KJ X l M d mc ms h0 post 0 lv [] [(h0, .inr (ci, f0))] 0 0) : q_KC X l M d mc ms h0 av ci f0 post := by
  intro sz
  refine Met.ofW (cc := M.2.2.1) (maxL := M.2.2.2.1) (ret := M.2.2.2.2) hy rfl ?_
  intro p e s m args below meth c s₁ B hml hv
  obtain ⟨rfl, hsz, hP, hKP⟩ := hv
  subst hsz
  have hts := atoms_spec (ws := q_wm M) B.pre
  have hown' : s.vm.findClass M.1 = some m.cls := by rw [hown]; exact findClass_of_methodNamed B.named
  have hin : meth.name = "<init>" := by rw [(name_of_methodNamed B.named B.method).1, hini]
  have hl := lv_entry (.ref h0 :: av) (n := M.2.2.2.1) hn
  rw [hlv] at hl
  rw [lg_entry_eq]
  refine k p e s m _ below meth c ⟨B.exec, B.bytes, hml, hown', hts, B.returns, B.notSynchronized, hin, hKP⟩ s.heap [] _ hP ⟨fun i j p q hi hj _ => ?_, fun k q hk => ?_⟩ va_S.rf hl
  · have h1 := (List.getElem?_eq_some_iff.mp hi).1
    have h2 := (List.getElem?_eq_some_iff.mp hj).1
    simp at h1 h2
    omega
  · have h1 := (List.getElem?_eq_some_iff.mp hk).1
    simp at h1
    subst h1
    cases hk
    exact Or.inl rfl
theorem q_nest_warm {s U : State} (hW : s.WarmedH U.vm) (h : ∀ w ∈ q_nest, va_Nw w s) : ∀ w ∈ q_nest, va_Nw w U := by
  intro w hw
  have h1 := h w hw
  simp only [q_nest, List.mem_cons, List.not_mem_nil, or_false] at hw
  rcases hw with rfl | rfl | rfl | rfl | rfl <;> exact va_Nw.warmM hW h1
theorem q_nest_same {s U : State} (hv : s.vm = U.vm) (h : ∀ w ∈ q_nest, va_Nw w s) : ∀ w ∈ q_nest, va_Nw w U := by
  intro w hw
  have h1 := h w hw
  simp only [q_nest, List.mem_cons, List.not_mem_nil, or_false] at hw
  rcases hw with rfl | rfl | rfl | rfl | rfl <;> exact va_Nw.same rfl hv h1
section QK
variable {X : q_X} {l : Launch} {M M' : q_M} {d d' mc ms h0 : Nat} {post : va_W → Prop} {pc nx : Nat} {lv : List (Nat × Value)} {st : List Value} {ws ws' : va_W} {c n : Nat}
theorem q_Kaload_n {k : Fin 4} {i x : Nat} (j : Nat) (hd : q_d M pc 1 (.aload_n k) nx) (hi : (k : Nat) = i) (hj : lv[j]? = some (i, .ref x)) (kk : q_KJ X l M d mc ms h0 post nx lv (.ref x :: st) ws c n) : q_KJ X l M d mc ms h0 post pc lv st ws c n := by
  obtain ⟨hd, rfl⟩ := hd
  intro p e s m args below meth cd C H locs ls hP hD hS hl
  exact lv_aload_n C.1 C.2.1 hd hi (lv_at hl j hj) (kk p e s m args below meth cd C H locs ls hP hD hS hl)
theorem q_Kaload {i x : Nat} (j : Nat) (hd : q_d M pc 2 (.aload i) nx) (hj : lv[j]? = some (i, .ref x)) (kk : q_KJ X l M d mc ms h0 post nx lv (.ref x :: st) ws c n) : q_KJ X l M d mc ms h0 post pc lv st ws c n := by
  obtain ⟨hd, rfl⟩ := hd
  intro p e s m args below meth cd C H locs ls hP hD hS hl
  exact lv_aload C.1 C.2.1 hd (lv_at hl j hj) (kk p e s m args below meth cd C H locs ls hP hD hS hl)
theorem q_Kiconst {z : Int} {v : Int32} (hd : q_d M pc 1 (.iconst z) nx) (hv : Int32.ofInt z = v) (kk : q_KJ X l M d mc ms h0 post nx lv (.int v :: st) ws c n) : q_KJ X l M d mc ms h0 post pc lv st ws c n := by
  obtain ⟨hd, rfl⟩ := hd
  intro p e s m args below meth cd C H locs ls hP hD hS hl
  exact lv_iconst C.1 C.2.1 hd hv (kk p e s m args below meth cd C H locs ls hP hD hS hl)
theorem q_Kbipush {z : Int} {v : Int32} (hd : q_d M pc 2 (.bipush z) nx) (hv : (Int8.ofInt z).toInt32 = v) (kk : q_KJ X l M d mc ms h0 post nx lv (.int v :: st) ws c n) : q_KJ X l M d mc ms h0 post pc lv st ws c n := by
  obtain ⟨hd, rfl⟩ := hd
  intro p e s m args below meth cd C H locs ls hP hD hS hl
  exact lv_bipush C.1 C.2.1 hd hv (kk p e s m args below meth cd C H locs ls hP hD hS hl)
theorem q_Ksipush {z : Int} {v : Int32} (hd : q_d M pc 3 (.sipush z) nx) (hv : (Int16.ofInt z).toInt32 = v) (kk : q_KJ X l M d mc ms h0 post nx lv (.int v :: st) ws c n) : q_KJ X l M d mc ms h0 post pc lv st ws c n := by
  obtain ⟨hd, rfl⟩ := hd
  intro p e s m args below meth cd C H locs ls hP hD hS hl
  exact lv_sipush C.1 C.2.1 hd hv (kk p e s m args below meth cd C H locs ls hP hD hS hl)
theorem q_Kdup {v : Value} (hd : q_d M pc 1 .dup nx) (hc : v.category = 1) (kk : q_KJ X l M d mc ms h0 post nx lv (v :: v :: st) ws c n) : q_KJ X l M d mc ms h0 post pc lv (v :: st) ws c n := by
  obtain ⟨hd, rfl⟩ := hd
  intro p e s m args below meth cd C H locs ls hP hD hS hl
  exact lv_dup C.1 C.2.1 hd hc (kk p e s m args below meth cd C H locs ls hP hD hS hl)
theorem q_Kobj {idx a : Nat} (hd : q_d M pc 3 (.invokespecial idx) nx) (h1 : Cond.methodLink M.1 idx objectInit ∈ q_tb) (h2 : Cond.instanceMethod objectInit ∈ q_tb) (h3 : Cond.code objectInit ⟨#[0xb1]⟩ 1 none ∈ q_tb) (hdd : 1 ≤ d) (hw : (st.map fun v => v.category).sum ≤ 8) (kk : q_KJ X l M d mc ms h0 post nx lv st ws c n) : q_KJ X l M d mc ms h0 post pc lv (.ref a :: st) ws c n := by
  obtain ⟨hd, rfl⟩ := hd
  intro p e s m args below meth cd C H locs ls hP hD hS hl
  have t : ∀ w ∈ q_tb, w.before args s = true := fun w h => C.2.2.2.2.1 w (List.mem_cons_of_mem _ h)
  refine W.objInit C.1 C.2.1 C.2.2.2.1 (t _ h1) (t _ h2) (t _ h3) (g := F0 m pc ls (.ref a :: st)) rfl (hl.1.trans C.2.2.1.symm) rfl hd (R := q_KR d mc ms) hdd (by have := lv_room (pc := pc) (ls := ls) (rest := (.ref a :: st)) (m := m) hw; show _ ≤ 100 * d; omega) ?_
  exact kk p e s m args below meth cd C H locs ls hP hD hS hl
theorem q_Knewi {z : Int32} {N : Nat} {at_ : ArrayType} {ty : FieldType} (t : Nat) (hd : q_d M pc 2 (.newarray at_) nx) (hty : newarray.typeOf at_ = ty) (ht : (q_tys X)[t]? = some (X.2.1 t, ty)) (hu : ∀ (U : State) (a b : ClassId), va_RA U a ty → va_RA U b ty → a = b) (hw : Cond.arrayClass ty ∈ q_tb) (ha : ∀ cA : ClassId, vp_cell cA (N, .inl (fun _ => 0)) = arrV cA N (fun _ => defaultValue ty)) (hz : ¬ z < 0) (hN : z.toNatClampNeg = N) (hb8 : N * componentBytes ty ≤ 536870912) (hc : c + 1 ≤ mc) (hs : n + N ≤ ms)
    (kk : ∀ q : Nat, q_KJ X l M d mc ms h0 post nx lv (.ref q :: st) (ws ++ [(q, .inl (X.2.1 t, N, .inl (fun _ => 0)))]) (c + 1) (n + N)) : q_KJ X l M d mc ms h0 post pc lv (.int z :: st) ws c n := by
  obtain ⟨hd, rfl⟩ := hd
  intro p e s m args below meth cd C H locs ls hP hD hS hl
  have tt : ∀ w ∈ q_tb, w.before args s = true := fun w h => C.2.2.2.2.1 w (List.mem_cons_of_mem _ h)
  have hK := C.2.2.2.2.2.2.2.2.1
  refine va_newa (a0 := (N, .inl (fun _ => 0))) (N' := N) C.1 C.2.1 (by rw [hty]; exact tt _ hw) hty hK hP hD hS (fun q h => Or.inr h) ha hz hN hb8 hc hs hd (fun q cA H1 hK1 hP1 hD1 hS1 => ?_)
  have e1 := (hK1.2 4 (cA, ty) rfl).2
  have e2 := (hK.2 t _ ht).2
  have e3 := hu s _ _ e1 e2
  subst e3
  exact kk q p e s m args below meth cd C H1 locs ls hP1 hD1 hS1 hl
theorem q_Knewl {z : Int32} {N : Nat} (hd : q_d M pc 2 (.newarray .long) nx) (hw : Cond.arrayClass .long ∈ q_tb) (hz : ¬ z < 0) (hN : z.toNatClampNeg = N) (hb8 : N * componentBytes .long ≤ 536870912) (hc : c + 1 ≤ mc) (hs : n + N ≤ ms)
    (kk : ∀ q : Nat, q_KJ X l M d mc ms h0 post nx lv (.ref q :: st) (ws ++ [(q, .inl (X.2.1 3, N, .inr (.inl (fun _ => 0))))]) (c + 1) (n + N)) : q_KJ X l M d mc ms h0 post pc lv (.int z :: st) ws c n := by
  obtain ⟨hd, rfl⟩ := hd
  intro p e s m args below meth cd C H locs ls hP hD hS hl
  have tt : ∀ w ∈ q_tb, w.before args s = true := fun w h => C.2.2.2.2.1 w (List.mem_cons_of_mem _ h)
  have hK := C.2.2.2.2.2.2.2.2.1
  refine va_newa (a0 := (N, .inr (.inl (fun _ => 0)))) (N' := N) (atype := .long) (ty := .long) C.1 C.2.1 (tt _ hw) rfl hK hP hD hS (fun q h => Or.inr h) (fun cA => by rw [vp_cell_l]; rfl) hz hN hb8 hc hs hd (fun q cA H1 hK1 hP1 hD1 hS1 => ?_)
  have e1 := (hK1.2 4 (cA, .long) rfl).2
  have e2 := (hK.2 3 (X.2.1 3, .long) rfl).2
  have e3 : cA = X.2.1 3 := Option.some.inj (Eq.trans (Eq.symm e1) e2)
  subst e3
  exact kk q p e s m args below meth cd C H1 locs ls hP1 hD1 hS1 hl
theorem q_Kput {idx ci k : Nat} {ty : FieldType} {v : Value} {fs : List Value} {a : Nat} (q0 : Nat) (hd : q_d M pc 3 (.putfield idx) nx) (hf : q_FP M.1 idx ci k ty) (he : ws[q0]? = some (a, .inr (ci, fs))) (hv : narrow ty v = v ∧ fits ty v = true) (hl9 : k < fs.length) (hw : ws.set q0 (a, .inr (ci, fs.set k v)) = ws') (kk : q_KJ X l M d mc ms h0 post nx lv st ws' c n) : q_KJ X l M d mc ms h0 post pc lv (v :: .ref a :: st) ws c n := by
  obtain ⟨hd, rfl⟩ := hd
  subst hw
  obtain ⟨hc, CC, T, N, ty0, h1, h2, h3, h4, h5, h6, h7, h8, h9⟩ := hf
  intro p e s m args below meth cd C H locs ls hP hD hS hl
  obtain ⟨hx, hb, hml, hown, hts, hr, hlk, hin, hK, hst, hnw⟩ := id C
  exact va_put (v := v) hx hb hts (fun w h => List.mem_cons_of_mem _ (h4 w h)) ty0 h6 h7 hown hK hP hD hS q0 he h1 k h3 (hts _ (List.mem_cons_of_mem _ h5)) (fun _ h => h) h8 h9 hv.1 hv.2 hl9 hd (fun H1 locs1 hP1 hD1 hS1 => kk p e s m args below meth cd C H1 locs1 ls hP1 hD1 hS1 hl)
def q_FPF (own : String) (idx ci k : Nat) (ty : FieldType) : Prop := ci < 100 ∧ ∃ (C : String) (T : u_T) (N : Nat) (ty0 : Nat → FieldType), q_cl[ci]? = some (C, T, N) ∧ N = q_nf ci ∧ k < N ∧ (∀ w ∈ u_ws C T N, w ∈ q_tb) ∧ Cond.fieldLink own idx (T k).1 (T k).2.1 (T k).2.2.1 ∈ q_tb ∧
  (∀ k, k < N → parseFieldDescriptor (T k).2.2.1 = some (ty0 k)) ∧ (∀ a, a < N → ∀ b, b < N → a ≠ b → (T a).2.1 ≠ (T b).2.1) ∧ (T k).2.2.2 = true ∧ (T k).1 = own ∧ parseFieldDescriptor (T k).2.2.1 = some ty
theorem q_KputF {idx ci k : Nat} {ty : FieldType} {v : Value} {fs : List Value} {a : Nat} (q0 : Nat) (hd : q_d M pc 3 (.putfield idx) nx) (hf : q_FPF M.1 idx ci k ty) (he : ws[q0]? = some (a, .inr (ci, fs))) (hv : narrow ty v = v ∧ fits ty v = true) (hl9 : k < fs.length) (hw : ws.set q0 (a, .inr (ci, fs.set k v)) = ws') (kk : q_KJ X l M d mc ms h0 post nx lv st ws' c n) : q_KJ X l M d mc ms h0 post pc lv (v :: .ref a :: st) ws c n := by
  obtain ⟨hd, rfl⟩ := hd
  subst hw
  obtain ⟨hc, CC, T, N, ty0, h1, h2, h3, h4, h5, h6, h7, h8, h8b, h9⟩ := hf
  intro p e s m args below meth cd C H locs ls hP hD hS hl
  obtain ⟨hx, hb, hml, hown, hts, hr, hlk, hin, hK, hst, hnw⟩ := id C
  exact va_putF (v := v) hx hb hts (fun w h => List.mem_cons_of_mem _ (h4 w h)) ty0 h6 h7 hown hK hP hD hS q0 he h1 k h3 (hts _ (List.mem_cons_of_mem _ h5)) (fun _ h => h) h8 hin h8b h9 hv.1 hv.2 hl9 hd (fun H1 locs1 hP1 hD1 hS1 => kk p e s m args below meth cd C H1 locs1 ls hP1 hD1 hS1 hl)
theorem q_Kget {idx ci k : Nat} {v : Value} {fs : List Value} {a : Nat} (q0 : Nat) (hd : q_d M pc 3 (.getfield idx) nx) (hf : q_FL M.1 idx ci k) (he : ws[q0]? = some (a, .inr (ci, fs))) (hv : fs[k]? = some v) (kk : q_KJ X l M d mc ms h0 post nx lv (v :: st) ws c n) : q_KJ X l M d mc ms h0 post pc lv (.ref a :: st) ws c n := by
  obtain ⟨hd, rfl⟩ := hd
  obtain ⟨hc, CC, T, N, h1, h2, h3, h4, h5⟩ := hf
  intro p e s m args below meth cd C H locs ls hP hD hS hl
  obtain ⟨hx, hb, hml, hown, hts, hr, hlk, hin, hK, hst, hnw⟩ := id C
  exact va_get hx hb hts (fun w h => List.mem_cons_of_mem _ (h4 w h)) hown hK hP q0 he h1 k h3 (hts _ (List.mem_cons_of_mem _ h5)) (fun _ h => h) hv hd (kk p e s m args below meth cd C H locs ls hP hD hS hl)
def q_NW (own : String) (idx ci : Nat) (fs : List Value) : Prop := ∃ (C : String) (T : u_T) (N : Nat) (ty : Nat → FieldType), q_cl[ci]? = some (C, T, N) ∧ N = q_nf ci ∧ (∀ w ∈ u_ws C T N, w ∈ q_tb) ∧ (∀ k, k < N → parseFieldDescriptor (T k).2.2.1 = some (ty k)) ∧ Cond.classLink own idx C ∈ q_tb ∧ Cond.instantiable C N ∈ q_tb ∧ Cond.initialized C ∈ q_tb ∧ ∀ j, j < N → defaultValue (ty j) = vp_V fs j
theorem q_Knew {idx ci N : Nat} {fs : List Value} (hd : q_d M pc 3 (.new idx) nx) (hf : q_NW M.1 idx ci fs) (hN : q_nf ci = N) (hc : c + 1 ≤ mc) (hs : n + N ≤ ms) (kk : ∀ q : Nat, q_KJ X l M d mc ms h0 post nx lv (.ref q :: st) (ws ++ [(q, .inr (ci, fs))]) (c + 1) (n + N)) : q_KJ X l M d mc ms h0 post pc lv st ws c n := by
  obtain ⟨hd, rfl⟩ := hd
  obtain ⟨CC, T, N', ty, h1, h2, h3, h4, h5, h6, h7, h8⟩ := hf
  rw [hN] at h2
  subst h2
  intro p e s m args below meth cd C H locs ls hP hD hS hl
  obtain ⟨hx, hb, hml, hown, hts, hr, hlk, hin, hK, hst, hnw⟩ := id C
  exact va_new hx hb hts (fun w h => List.mem_cons_of_mem _ (h3 w h)) ty h4 hown (hts _ (List.mem_cons_of_mem _ h5)) (hts _ (List.mem_cons_of_mem _ h6)) (hts _ (List.mem_cons_of_mem _ h7)) hK hP hD hS (fun q h => Or.inr h) h1 h8 hc hs hd (fun q H1 hP1 hD1 hS1 => kk q p e s m args below meth cd C H1 locs ls hP1 hD1 hS1 hl)
theorem q_Kret (hd : q_d M pc 1 .return_ nx) (hM : M.2.2.2.2 = none) (hc : c ≤ mc) (hn : n ≤ ms) (hp : post ws) : q_KJ X l M d mc ms h0 post pc lv [] ws c n := by
  obtain ⟨hd, rfl⟩ := hd
  intro p e s m args below meth cd C H locs ls hP hD hS hl
  refine W.widen (k := mc) (n := ms) hc hn ?_
  exact W.vret C.1 C.2.1 (C.2.2.2.2.2.1.trans hM) (fun t ht hW => ⟨⟨rfl, ws, hp, by rw [ht]; exact hP, hD⟩, hS.F ht⟩) hS.2.2 hd C.2.2.2.2.2.2.1
def q_CI (own : String) (idx : Nat) (M : q_M) (n : Nat) : Prop := (Cond.methodLink own idx M.2.1 ∈ q_tb ∨ Cond.methodLinkNest own idx M.2.1 RX10 ∈ q_nest) ∧ M.2.1.name = "<init>" ∧ M.2.2.2.2 = none ∧ Cond.instanceMethod M.2.1 ∈ q_tb ∧ Cond.initialized M.2.1.cls ∈ q_tb ∧ Cond.code M.2.1 M.2.2.1 M.2.2.2.1 M.2.2.2.2 ∈ q_tb ∧
  (M.2.1.cls ≠ "java/lang/invoke/MethodHandle" ∧ M.2.1.cls ≠ "java/lang/invoke/VarHandle" ∧ (parseMethodDescriptor M.2.1.desc).map (fun d => d.parameters.length) = some n) ∧ M.2.2.2.1 ≤ 80
theorem q_KA_A {h1 sz : Nat} {e : va_E} : ∀ q, va_A [(h1, e)] sz q ↔ q_KA h1 sz q := by
  intro q
  constructor
  · intro h
    rcases h with ⟨k, e', h⟩ | h
    · have h2 := (List.getElem?_eq_some_iff.mp h).1
      simp at h2
      subst h2
      cases h
      exact Or.inl rfl
    · exact Or.inr h
  · intro h
    rcases h with rfl | h
    · exact Or.inl ⟨0, e, rfl⟩
    · exact Or.inr h
theorem q_Kcall {idx nn mc1 ms1 ci1 h1 : Nat} {As stk : List Value} {f1 : List Value} {post1 : va_W → Prop} {wr : va_W} (q0 : Nat) (isR : List Nat) (hd : q_d M pc 3 (.invokespecial idx) nx) (hV : q_CI M.1 idx M' nn) (hC : q_KC X l M' d' mc1 ms1 h1 As ci1 f1 post1) (he : ws[q0]? = some (h1, .inr (ci1, f1))) (hR : isR.map (fun i => ws[i]?) = wr.map some) (hnd : va_nd isR = true) (hdis : q0 ∉ isR)
    (hn : As.length = nn) (hs : stk = As.reverse ++ .ref h1 :: st) (hw : (st.map fun v => v.category).sum ≤ 8) (hdd : d' + 1 ≤ d) (hc : c + mc1 ≤ mc) (hss : n + ms1 ≤ ms)
    (kk : ∀ w1, post1 w1 → q_KJ X l M d mc ms h0 post nx lv st (wr ++ w1) (c + mc1) (n + ms1)) : q_KJ X l M d mc ms h0 post pc lv stk ws c n := by
  obtain ⟨hd, rfl⟩ := hd
  subst hs
  intro p e s m args below meth cd C H locs ls hP hD hS hl
  obtain ⟨hx, hb, hml, hown, hts, hr, hlk, hin, hK, hst, hnw⟩ := id C
  obtain ⟨v0, v1, v1b, v2, v3, v5, v6, v7⟩ := hV
  have hle : ∀ q, q_KA h1 H.size q → q_KA h0 s.heap.size q := by
    intro q h
    rcases h with rfl | h
    · exact hD.2 q0 _ he
    · exact Or.inr (Nat.le_trans hS.1 h)
  have hPc : va_P X.1 q_cl [(h1, .inr (ci1, f1))] H := hP.sub [q0] (by simp [he])
  have hM := hC H.size
  have hpre : FrameBlind (va_Pc (.ref h1 :: As) (fun U => U.heap.size = H.size ∧ va_P X.1 q_cl [(h1, .inr (ci1, f1))] U.heap ∧ q_KP X h1 H.size U)) := by
    intro a U g mk q
    obtain ⟨z0, z1, z2, z3, z4, z5⟩ := q
    exact ⟨z0, z1, z2, va_K.moved (u := U) (U := U.calling g mk a) (Vm.Alike.refl U.vm) z3, q_st_mv (s := U) (U := U.calling g mk a) z4 rfl rfl, q_nest_same (s := U) (U := U.calling g mk a) rfl z5⟩
  have hstU : ∀ U : State, U.heap = H → s.WarmedH U.vm → q_st X (q_KA h1 H.size) U := by
    intro U hU hW
    subst hU
    have hvm := hW.alike
    obtain ⟨g0, g3, g4, g5, g6⟩ := hst
    refine ⟨fun j hj => ?_, ((g3.kept hS.2.1).moved hvm).narrow hle, fun i hi => vk_R.warm hW (g4 i hi), ((g5.kept hS.2.1).moved hvm).narrow hle, g6.imp (fun z => ((z.kept hS.2.1).moved hvm).narrow hle) (fun z => ((z.kept hS.2.1).moved hvm).narrow hle)⟩
    obtain ⟨g1, g2⟩ := g0 j hj
    exact ⟨((g1.kept hS.2.1).moved hvm).narrow hle, ((g2.kept hS.2.1).moved hvm).narrow hle⟩
  have hG : GoodIn (q_wm M) (q_wm M') := q_goodT (fun w hw => q_goodM (M := M) v5 w hw)
  have hpS : PreS s H (va_Pc (.ref h1 :: As) (fun U => U.heap.size = H.size ∧ va_P X.1 q_cl [(h1, .inr (ci1, f1))] U.heap ∧ q_KP X h1 H.size U)) (.ref h1 :: As) := ⟨hpre, fun U hU hW => ⟨rfl, by rw [hU], by rw [hU]; exact hPc, va_K.moved hW.alike hK, hstU U hU hW, q_nest_warm hW hnw⟩⟩
  have hroom : d' + 1 ≤ (q_KR d mc ms).frames ∧ 8 + (M'.2.2.2.1 + 11) + (q_KR d' mc1 ms1).locals ≤ (q_KR d mc ms).locals := ⟨hdd, by show 8 + (M'.2.2.2.1 + 11) + 100 * d' ≤ 100 * d; omega⟩
  have hini : (Cond.initialized M'.2.1.cls).before args s = true := hts _ (List.mem_cons_of_mem _ v3)
  have hinst : (Cond.instanceMethod M'.2.1).before args s = true := hts _ (List.mem_cons_of_mem _ v2)
  have hwm : q_wm M' = Cond.code M'.2.1 M'.2.2.1 M'.2.2.2.1 none :: q_tb := by unfold q_wm; rw [v1b]
  have run : va_Run p l e (q_KR d mc ms) s m args below meth cd H locs c n mc1 ms1 (F0 m pc ls (As.reverse ++ .ref h1 :: st)) st (q_KQ X (q_KA h1 H.size) post1 (Value.ref h1 :: As).toArray) (q_KA h1 H.size) := by
    rcases v0 with v0 | v0
    · exact va_runI (As := As) (rest := st) ⟨hx, hb, hml, hown, hts⟩ hM (cwI nn hts hG hwm rfl rfl hini (hts _ (List.mem_cons_of_mem _ v0)) hinst v1 v6 hroom) hpS rfl hn hl.1 rfl (lv_room hw) hd ⟨hc, hss⟩
    · exact va_runIN (As := As) (rest := st) ⟨hx, hb, hml, hown, hts⟩ hM ⟨va_cnB nn hts hG hwm rfl rfl (hnw _ v0) hini v6 hroom, v1, hinst⟩ hpS rfl hn hl.1 rfl (lv_room hw) hd ⟨hc, hss⟩
  intro T hT X0
  obtain ⟨v, st₀, t, T', L, h0', X', hL, e1, e2, ⟨⟨hv, w1, hp1, hP1, hD1⟩, hz, hk⟩, stp⟩ := run T hT X0
  cases hv
  rw [h0'] at hz hk
  have hk1 : ∀ q : Nat, q < H.size → ¬ va_A [(h1, .inr (ci1, f1))] H.size q → T'.heap[q]? = H[q]? := fun q g1 g2 => by rw [e1]; exact hk q g1 (fun z => g2 ((q_KA_A q).mpr z))
  have hFc : ∀ q, va_A [(h1, .inr (ci1, f1))] H.size q → q_KA h0 s.heap.size q := fun q z => hle q ((q_KA_A q).mp z)
  have hC9 : ([q0] : List Nat).map (fun i => ws[i]?) = ([(h1, .inr (ci1, f1))] : va_W).map some := by simp [he]
  obtain ⟨hP2, hD2⟩ := va_join hP hD [q0] isR hC9 hR hnd (fun i hi => by simp; rintro rfl; exact hdis hi) hk1 hFc (by rw [e1]; exact hP1) (hD1.weaken (fun _ _ _ z => (q_KA_A _).mpr z))
  obtain ⟨t2, a1, b1⟩ := kk w1 hp1 p e s m args below meth cd C T'.heap (locs ++ L) ls hP2 hD2
    ⟨Nat.le_trans hS.1 (by rw [e1]; exact hz), fun q g1 g2 => by rw [e1, hk q (Nat.lt_of_lt_of_le g1 hS.1) (fun z => g2 (hle q z))]; exact hS.2.1 q g1 g2, fun q hq => by
      rcases List.mem_append.mp hq with h | h
      · exact hS.2.2 q h
      · exact hle _ (hL q h)⟩ hl T' rfl X'
  exact ⟨t2, stp t2 a1, b1⟩
end QK
