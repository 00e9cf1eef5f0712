/-! more rows for constructors: locals, branches, a constant text, calls of methods with contracts of the other frame -/
theorem cW_lt (q : Nat) (h : cW q < 200) : q < 3 := by
  apply Classical.byContradiction; intro z
  have e : cW q = 999 := by unfold cW; rw [List.getD_eq_getElem?_getD, List.getElem?_eq_none (by show 3 ≤ q; omega)]; rfl
  omega
section QK2
variable {X : q_X} {l : Launch} {M M' : q_M} {d d' mc ms h0 : Nat} {post : va_W → Prop} {pc nx : Nat} {lv : List (Nat × Value)} {st : List Value} {ws ws' : va_W} {c n : Nat}
theorem q_Klconst {z : Fin 2} {v : Int64} (hd : q_d M pc 1 (.lconst z) nx) (hv : Int64.ofNat (z : Nat) = v) (kk : q_KJ X l M d mc ms h0 post nx lv (.long v :: st) ws c n) : q_KJ X l M d mc ms h0 post pc lv (st) ws c n := by
  obtain ⟨hd, rfl⟩ := hd
  intro p e s m args below meth cd C H locs ls hP hD hS hl
  exact lv_lconst C.1 C.2.1 hd hv (kk p e s m args below meth cd C H locs ls hP hD hS hl)
theorem q_Kiload_n {z : Fin 4} {i : Nat} {x : Int32} (j : Nat) (hd : q_d M pc 1 (.iload_n z) nx) (hi : (z : Nat) = i) (hj : lv[j]? = some (i, .int x)) (kk : q_KJ X l M d mc ms h0 post nx lv (.int x :: st) ws c n) : q_KJ X l M d mc ms h0 post pc lv (st) ws c n := by
  obtain ⟨hd, rfl⟩ := hd
  intro p e s m args below meth cd C H locs ls hP hD hS hl
  exact lv_iload_n C.1 C.2.1 hd hi (lv_at hl j hj) (kk p e s m args below meth cd C H locs ls hP hD hS hl)
theorem q_Kiload {i : Nat} {x : Int32} (j : Nat) (hd : q_d M pc 2 (.iload i) nx) (hj : lv[j]? = some (i, .int x)) (kk : q_KJ X l M d mc ms h0 post nx lv (.int x :: st) ws c n) : q_KJ X l M d mc ms h0 post pc lv (st) ws c n := by
  obtain ⟨hd, rfl⟩ := hd
  intro p e s m args below meth cd C H locs ls hP hD hS hl
  exact lv_iload C.1 C.2.1 hd (lv_at hl j hj) (kk p e s m args below meth cd C H locs ls hP hD hS hl)
theorem q_Kistore_n {z : Fin 4} {i : Nat} {x : Int32} {lv' : List (Nat × Value)} (hd : q_d M pc 1 (.istore_n z) nx) (hi : (z : Nat) = i) (hn : i < M.2.2.2.1) (hl0 : (i, Value.int x) :: lv.filter (fun q => !(q.1 == i) && !(q.1 + 1 == i && q.2.category == 2)) = lv') (kk : q_KJ X l M d mc ms h0 post nx lv' (st) ws c n) : q_KJ X l M d mc ms h0 post pc lv (.int x :: st) ws c n := by
  obtain ⟨hd, rfl⟩ := hd
  intro p e s m args below meth cd C H locs ls hP hD hS hl
  exact lv_istore_n C.1 C.2.1 hd hi hl hn hl0 (fun ls hl => kk p e s m args below meth cd C H locs ls hP hD hS hl)
theorem q_Kistore {i : Nat} {x : Int32} {lv' : List (Nat × Value)} (hd : q_d M pc 2 (.istore i) nx) (hn : i < M.2.2.2.1) (hl0 : (i, Value.int x) :: lv.filter (fun q => !(q.1 == i) && !(q.1 + 1 == i && q.2.category == 2)) = lv') (kk : q_KJ X l M d mc ms h0 post nx lv' (st) ws c n) : q_KJ X l M d mc ms h0 post pc lv (.int x :: st) ws c n := by
  obtain ⟨hd, rfl⟩ := hd
  intro p e s m args below meth cd C H locs ls hP hD hS hl
  exact lv_istore C.1 C.2.1 hd hl hn hl0 (fun ls hl => kk p e s m args below meth cd C H locs ls hP hD hS hl)
theorem q_Klload_n {z : Fin 4} {i : Nat} {x : Int64} (j : Nat) (hd : q_d M pc 1 (.lload_n z) nx) (hi : (z : Nat) = i) (hj : lv[j]? = some (i, .long x)) (kk : q_KJ X l M d mc ms h0 post nx lv (.long x :: st) ws c n) : q_KJ X l M d mc ms h0 post pc lv (st) ws c n := by
  obtain ⟨hd, rfl⟩ := hd
  intro p e s m args below meth cd C H locs ls hP hD hS hl
  exact lv_lload_n C.1 C.2.1 hd hi (lv_at hl j hj) (kk p e s m args below meth cd C H locs ls hP hD hS hl)
theorem q_Klstore_n {z : Fin 4} {i : Nat} {x : Int64} {lv' : List (Nat × Value)} (hd : q_d M pc 1 (.lstore_n z) nx) (hi : (z : Nat) = i) (hn : i + 1 < M.2.2.2.1) (hl0 : (i, Value.long x) :: lv.filter (fun q => !(q.1 == i) && (!(q.1 == i + 1) && !(q.1 + 1 == i && q.2.category == 2))) = lv') (kk : q_KJ X l M d mc ms h0 post nx lv' (st) ws c n) : q_KJ X l M d mc ms h0 post pc lv (.long x :: st) ws c n := by
  obtain ⟨hd, rfl⟩ := hd
  intro p e s m args below meth cd C H locs ls hP hD hS hl
  exact lv_lstore_n C.1 C.2.1 hd hi hl hn hl0 (fun ls hl => kk p e s m args below meth cd C H locs ls hP hD hS hl)
theorem q_Klstore {i : Nat} {x : Int64} {lv' : List (Nat × Value)} (hd : q_d M pc 2 (.lstore i) nx) (hn : i + 1 < M.2.2.2.1) (hl0 : (i, Value.long x) :: lv.filter (fun q => !(q.1 == i) && (!(q.1 == i + 1) && !(q.1 + 1 == i && q.2.category == 2))) = lv') (kk : q_KJ X l M d mc ms h0 post nx lv' (st) ws c n) : q_KJ X l M d mc ms h0 post pc lv (.long x :: st) ws c n := by
  obtain ⟨hd, rfl⟩ := hd
  intro p e s m args below meth cd C H locs ls hP hD hS hl
  exact lv_lstore C.1 C.2.1 hd hl hn hl0 (fun ls hl => kk p e s m args below meth cd C H locs ls hP hD hS hl)
theorem q_Kiinc {i : Nat} {z : Int} {x v : Int32} {lv' : List (Nat × Value)} (j : Nat) (hd : q_d M pc 3 (.iinc i z) nx) (hj : lv[j]? = some (i, .int x)) (hv : x + Int32.ofInt z = v) (hn : i < M.2.2.2.1) (hl0 : (i, Value.int v) :: lv.filter (fun q => !(q.1 == i) && !(q.1 + 1 == i && q.2.category == 2)) = lv') (kk : q_KJ X l M d mc ms h0 post nx lv' (st) ws c n) : q_KJ X l M d mc ms h0 post pc lv (st) ws c n := by
  obtain ⟨hd, rfl⟩ := hd
  intro p e s m args below meth cd C H locs ls hP hD hS hl
  exact lv_iinc C.1 C.2.1 hd hl (k := j) hj hv hn hl0 (fun ls hl => kk p e s m args below meth cd C H locs ls hP hD hS hl)
theorem q_Ksub {lv' : List (Nat × Value)} (ks : List Nat) (h : lv_pick lv ks = lv') (kk : q_KJ X l M d mc ms h0 post pc lv' (st) ws c n) : q_KJ X l M d mc ms h0 post pc lv (st) ws c n := by
  intro p e s m args below meth cd C H locs ls hP hD hS hl
  exact kk p e s m args below meth cd C H locs ls hP hD hS (lv_sub hl ks h)
theorem q_Klshl {x : Int64} {y : Int32} (hd : q_d M pc 1 (.lshl) nx) (kk : q_KJ X l M d mc ms h0 post nx lv (.long (x <<< (y.toInt64 &&& 63)) :: st) ws c n) : q_KJ X l M d mc ms h0 post pc lv (.int y :: .long x :: st) ws c n := by
  obtain ⟨hd, rfl⟩ := hd
  intro p e s m args below meth cd C H locs ls hP hD hS hl
  exact lv_lshl C.1 C.2.1 hd rfl (kk p e s m args below meth cd C H locs ls hP hD hS hl)
theorem q_Klor {x y : Int64} (hd : q_d M pc 1 (.lor) nx) (kk : q_KJ X l M d mc ms h0 post nx lv (.long (x ||| y) :: st) ws c n) : q_KJ X l M d mc ms h0 post pc lv (.long y :: .long x :: st) ws c n := by
  obtain ⟨hd, rfl⟩ := hd
  intro p e s m args below meth cd C H locs ls hP hD hS hl
  exact lv_lor C.1 C.2.1 hd (kk p e s m args below meth cd C H locs ls hP hD hS hl)
theorem q_Ki2l {x : Int32} (hd : q_d M pc 1 (.i2l) nx) (kk : q_KJ X l M d mc ms h0 post nx lv (.long x.toInt64 :: st) ws c n) : q_KJ X l M d mc ms h0 post pc lv (.int x :: st) ws c n := by
  obtain ⟨hd, rfl⟩ := hd
  intro p e s m args below meth cd C H locs ls hP hD hS hl
  exact lv_i2l C.1 C.2.1 hd rfl (kk p e s m args below meth cd C H locs ls hP hD hS hl)
theorem q_Kgoto {off : Int} {tgt : Nat} (hd : q_d M pc 3 (.goto off) nx) (ht : (pc : Int) + off = (tgt : Int)) (kk : q_KJ X l M d mc ms h0 post tgt lv (st) ws c n) : q_KJ X l M d mc ms h0 post pc lv (st) ws c n := by
  obtain ⟨hd, rfl⟩ := hd
  intro p e s m args below meth cd C H locs ls hP hD hS hl
  exact lv_goto C.1 C.2.1 hd ht (kk p e s m args below meth cd C H locs ls hP hD hS hl)
theorem q_Kicmp_ge {x y : Int32} {off : Int} {tgt : Nat} (hd : q_d M pc 3 (.if_icmp .ge off) nx) (ht : (pc : Int) + off = (tgt : Int)) (k1 : y ≤ x → q_KJ X l M d mc ms h0 post tgt lv (st) ws c n) (k2 : ¬ y ≤ x → q_KJ X l M d mc ms h0 post nx lv (st) ws c n) : q_KJ X l M d mc ms h0 post pc lv (.int y :: .int x :: st) ws c n := by
  obtain ⟨hd, rfl⟩ := hd
  intro p e s m args below meth cd C H locs ls hP hD hS hl
  exact lv_icmp_ge C.1 C.2.1 hd ht (fun z => k1 z p e s m args below meth cd C H locs ls hP hD hS hl) (fun z => k2 z p e s m args below meth cd C H locs ls hP hD hS hl)
theorem q_Kicmp_eq {x y : Int32} {off : Int} {tgt : Nat} (hd : q_d M pc 3 (.if_icmp .eq off) nx) (ht : (pc : Int) + off = (tgt : Int)) (k1 : x = y → q_KJ X l M d mc ms h0 post tgt lv (st) ws c n) (k2 : ¬ x = y → q_KJ X l M d mc ms h0 post nx lv (st) ws c n) : q_KJ X l M d mc ms h0 post pc lv (.int y :: .int x :: st) ws c n := by
  obtain ⟨hd, rfl⟩ := hd
  intro p e s m args below meth cd C H locs ls hP hD hS hl
  exact lv_icmp_eq C.1 C.2.1 hd ht (fun z => k1 z p e s m args below meth cd C H locs ls hP hD hS hl) (fun z => k2 z p e s m args below meth cd C H locs ls hP hD hS hl)
theorem q_KldcS {idx : Nat} (i : Nat) (hd : q_d M pc 2 (.ldc idx) nx) (hi : i < 2) (hM : M.1 = "MarbleBath$Scanner") (hx1 : q_six i = idx) (kk : q_KJ X l M d mc ms h0 post nx lv (.ref (X.2.2 (1100 + i)) :: st) ws c n) : q_KJ X l M d mc ms h0 post pc lv (st) ws c n := by
  subst hx1
  obtain ⟨hd, rfl⟩ := hd
  intro p e s m args below meth cd C H locs ls hP hD hS hl
  have hown := C.2.2.2.1
  rw [hM] at hown
  exact va_ldcS C.1 C.2.1 hown (C.2.2.2.2.2.2.2.2.2.1.2.2.1 i hi) hd (kk p e s m args below meth cd C H locs ls hP hD hS hl)
theorem q_KalenL {a N : Nat} {f : Nat → Int64} {v : Int32} (q0 : Nat) (hd : q_d M pc 1 .arraylength nx) (he : ws[q0]? = some (a, .inl (X.2.1 3, N, .inr (.inl f)))) (hv : Int32.ofNat N = v) (kk : q_KJ X l M d mc ms h0 post nx lv (.int v :: st) ws c n) : q_KJ X l M d mc ms h0 post pc lv (.ref a :: st) ws c n := by
  obtain ⟨hd, rfl⟩ := hd
  intro p e s m args below meth cd C H locs ls hP hD hS hl
  exact va_alen C.1 C.2.1 C.2.2.2.2.2.2.2.2.1 hP q0 3 (x := (N, .inr (.inl f))) he rfl hv hd (kk p e s m args below meth cd C H locs ls hP hD hS hl)
theorem q_Klast {a N : Nat} {f : Nat → Int64} {i : Int32} {x : Int64} (q0 : Nat) (hd : q_d M pc 1 .lastore nx) (he : ws[q0]? = some (a, .inl (X.2.1 3, N, .inr (.inl f)))) (hin : vp_in i N) (hw : ws.set q0 (a, .inl (X.2.1 3, N, .inr (.inl (vp_updL f i.toNatClampNeg x)))) = ws') (kk : q_KJ X l M d mc ms h0 post nx lv (st) ws' c n) : q_KJ X l M d mc ms h0 post pc lv (.long x :: .int i :: .ref a :: st) ws c n := by
  subst hw
  obtain ⟨hd, rfl⟩ := hd
  intro p e s m args below meth cd C H locs ls hP hD hS hl
  exact va_last C.1 C.2.1 C.2.2.2.2.2.2.2.2.1 hP hD hS q0 3 he rfl hin hd (fun H1 locs1 hP1 hD1 hS1 => kk p e s m args below meth cd C H1 locs1 ls hP1 hD1 hS1 hl)
theorem q_st_S0 {h1 : Nat} {s U : State} {H : Heap} {locs : List Loc} {A : Nat → Prop} (hst : q_st X (q_KA h1 s.heap.size) s) (hS : va_S (q_KA h1 s.heap.size) s.heap H locs) (hA : ∀ q, A q → q_KA h1 s.heap.size q) {f : Nat → Nat} (hf : ∀ k, 1000 ≤ k → f k = X.2.2 k) (hU : U.heap = H) (hW : s.WarmedH U.vm) : q_st (X.1, X.2.1, f) A U := by
  subst hU
  have hvm := hW.alike
  obtain ⟨g0, g3, g4, g5, g6⟩ := hst
  have e1 : (fun i => f (1100 + i)) = fun i => X.2.2 (1100 + i) := funext fun i => hf _ (by omega)
  have e2 : (fun i => f (1110 + i)) = fun i => X.2.2 (1110 + i) := funext fun i => hf _ (by omega)
  refine ⟨fun j hj => ?_, ?_, fun i hi => ?_, ((g5.kept hS.2.1).moved hvm).narrow hA, ?_⟩
  · obtain ⟨g1, g2⟩ := g0 j hj
    show va_Z _ _ _ (.ref (f (1000 + j))) _ _ _ ∧ va_T _ (f (1000 + j)) _ _ _ _ _
    rw [hf _ (by omega)]
    exact ⟨((g1.kept hS.2.1).moved hvm).narrow hA, ((g2.kept hS.2.1).moved hvm).narrow hA⟩
  · show vk_S _ _ _ (fun i => f (1100 + i)) (fun i => f (1110 + i)) _ _ _
    rw [e1, e2]
    exact ((g3.kept hS.2.1).moved hvm).narrow hA
  · show vk_R _ _ _ (f (1100 + i)) _
    rw [hf _ (by omega)]
    exact vk_R.warm hW (g4 i hi)
  · show _ ∨ va_Z _ _ _ (.ref (f 1120)) _ _ _
    rw [hf _ (by omega)]
    exact g6.imp (fun z => ((z.kept hS.2.1).moved hvm).narrow hA) (fun z => ((z.kept hS.2.1).moved hvm).narrow hA)
theorem q_ok0 (X : q_X) : q_ok X S_0 := ⟨fun i j h => absurd h (by simp), fun q h => absurd h (by show ¬ 999 < 200; omega)⟩
theorem q_KcallS {idx nn : Nat} {r : Int64} {As Bs stk : List Value} (w0 : q_W) (hd : q_d M pc 3 (.invokestatic idx) nx) (hV : q_CS M.1 idx M' nn) (hC : q_Ct X S_0 l M' d' q_tL As w0 (some (r, w0))) (hB : As.map (q_cv X) = Bs) (hn : As.length = nn) (hs : stk = Bs.reverse ++ st) (hw : (st.map fun v => v.category).sum ≤ 8) (hdd : d' + 1 ≤ d) (hcm : c ≤ mc) (hnm : n ≤ ms) (kk : q_KJ X l M d mc ms h0 post nx lv (.long r :: st) ws c n) : q_KJ X l M d mc ms h0 post pc lv stk ws c n := by
  obtain ⟨hd, rfl⟩ := hd
  subst hs
  subst hB
  intro p e s m args below meth cd C H locs ls hP hD hS hl
  obtain ⟨hx, hb', hml, hown, hts, hr, hlk, hin, hK, hst, hnw⟩ := id C
  obtain ⟨v1, v2, v3, v5, v6, v7⟩ := hV
  have hM := hC r w0 rfl H.size
  have hle : ∀ q, q_A X S_0 H.size q → q_KA h0 s.heap.size q := by
    intro q h
    rcases h with ⟨k, h, -⟩ | h
    · exact absurd h (by simp)
    · exact Or.inr (Nat.le_trans hS.1 h)
  have hG : GoodIn (q_wm M) (va_wsS M.1 idx M'.2.1 (q_wm M')) := q_goodT (fun w hw => by
    rcases List.mem_append.mp hw with h | h
    · rcases List.mem_cons.mp h with rfl | h
      · exact v1
      · rcases List.mem_cons.mp h with rfl | h
        · exact v2
        · rcases List.mem_cons.mp h with rfl | h
          · exact v3
          · cases h
    · exact q_goodM (M := M) v5 w h)
  have run : va_Run p l e (q_KR d mc ms) s m args below meth cd H locs c n 0 0 (F0 m pc ls ((As.map (q_cv X)).reverse ++ st)) st (q_Q X S_0 (q_A X S_0 H.size) (q_tL r) w0 (As.map (q_cv X)).toArray) (q_A X S_0 H.size) := va_runS (As := As.map (q_cv X)) (rest := st) ⟨hx, hb', hml, hown, hts⟩ hM (va_cwS nn hts hG rfl rfl rfl v6 ⟨hdd, by show 8 + (M'.2.2.2.1 + 11) + 100 * d' ≤ 100 * d; omega⟩) ⟨q_blind, fun U hU hW => ⟨rfl, by rw [hU], fun k q h => absurd h (by simp [q_ws]), va_K.moved hW.alike hK, q_ok0 X, q_st_S0 hst hS hle (fun _ _ => rfl) hU hW⟩⟩ rfl (by rw [List.length_map]; exact hn) hl.1 rfl (lv_room hw) hd ⟨hcm, hnm⟩
  intro T hT X0
  obtain ⟨v, st₀, t, T', L, h0', X', hL, e1, e2, ⟨⟨hv, hb⟩, hz, hk⟩, stp⟩ := run T hT X0
  cases hv
  rw [h0'] at hz hk
  have hk2 : ∀ q : Nat, q < H.size → T'.heap[q]? = H[q]? := fun q g => by
    rw [e1]
    refine hk q g (fun z => ?_)
    rcases z with ⟨k, z, -⟩ | z
    · exact absurd z (by simp)
    · omega
  obtain ⟨t2, a1, b1⟩ := kk p e s m args below meth cd C T'.heap (locs ++ L) ls (hP.kept (fun k q h => hk2 q.1 ((hP k q h).lt))) hD
    ⟨Nat.le_trans hS.1 (by rw [e1]; exact hz), fun q g1 g2 => by rw [hk2 q (Nat.lt_of_lt_of_le g1 hS.1)]; exact hS.2.1 q g1 g2, fun q hq => by
      rcases List.mem_append.mp hq with h | h
      · exact hS.2.2 q h
      · exact hle _ (hL q h)⟩ hl T' rfl X'
  exact ⟨t2, stp t2 a1, b1⟩
theorem q_KcallT {idx nn : Nat} {r : Int32} {As Bs stk : List Value} (i : Nat) (w0 : q_W) (hd : q_d M pc 3 (.invokevirtual idx) nx) (hV : q_CV M.1 idx M' nn) (hC : q_Ct X S_0 l M' d' q_tI (.ref (1100 + i) :: As) w0 (some (r, w0))) (hi : i < 2) (hci : M'.2.1.cls = "java/lang/String") (hB : As.map (q_cv X) = Bs) (hn : As.length = nn) (hs : stk = Bs.reverse ++ .ref (X.2.2 (1100 + i)) :: st) (hw : (st.map fun v => v.category).sum ≤ 8) (hdd : d' + 1 ≤ d) (hcm : c ≤ mc) (hnm : n ≤ ms) (kk : q_KJ X l M d mc ms h0 post nx lv (.int r :: st) ws c n) : q_KJ X l M d mc ms h0 post pc lv stk ws c n := by
  obtain ⟨hd, rfl⟩ := hd
  subst hs
  subst hB
  intro p e s m args below meth cd C H locs ls hP hD hS hl
  obtain ⟨hx, hb', hml, hown, hts, hr, hlk, hin, hK, hst, hnw⟩ := id C
  obtain ⟨v1, v2, v3, v4, v5, v6, v7⟩ := hV
  have hM := hC r w0 rfl H.size
  have hle : ∀ q, q_A X S_0 H.size q → q_KA h0 s.heap.size q := by
    intro q h
    rcases h with ⟨k, h, -⟩ | h
    · exact absurd h (by simp)
    · exact Or.inr (Nat.le_trans hS.1 h)
  have hrec : ∃ cell : Cell, H[X.2.2 (1100 + i)]? = some cell ∧ cell.vm.isStatics = false ∧ s.vm.findClass M'.2.1.cls = some cell.cls := by
    rw [hci]
    have h9 := vk_recv (i := i) hst.2.1 hi hS
    exact h9
  have hG : GoodIn (q_wm M) (wsV M.1 idx M'.2.1.cls M'.2.1 (q_wm M')) := q_goodT (fun w hw => by
    rcases List.mem_append.mp hw with h | h
    · rcases List.mem_cons.mp h with rfl | h
      · exact v1
      · rcases List.mem_cons.mp h with rfl | h
        · exact v2
        · rcases List.mem_cons.mp h with rfl | h
          · exact v3
          · rcases List.mem_cons.mp h with rfl | h
            · exact v4
            · cases h
    · exact q_goodM (M := M) v5 w h)
  have run : va_Run p l e (q_KR d mc ms) s m args below meth cd H locs c n 0 0 (F0 m pc ls ((As.map (q_cv X)).reverse ++ .ref (X.2.2 (1100 + i)) :: st)) st (q_Q X S_0 (q_A X S_0 H.size) (q_tI r) w0 (Value.ref (X.2.2 (1100 + i)) :: As.map (q_cv X)).toArray) (q_A X S_0 H.size) := va_runV (As := As.map (q_cv X)) (rest := st) (b := X.2.2 (1100 + i)) (C := M'.2.1.cls) ⟨hx, hb', hml, hown, hts⟩ hM (cwV nn hts hG rfl rfl rfl ⟨rfl, v6⟩ ⟨hdd, by show 8 + (M'.2.2.2.1 + 11) + 100 * d' ≤ 100 * d; omega⟩) ⟨q_blind, hrec, fun U hU hW => ⟨rfl, by rw [hU], fun k q h => absurd h (by simp [q_ws]), va_K.moved hW.alike hK, q_ok0 X, q_st_S0 hst hS hle (fun _ _ => rfl) hU hW⟩⟩ rfl (by rw [List.length_map]; exact hn) hl.1 rfl (lv_room hw) hd ⟨hcm, hnm⟩
  intro T hT X0
  obtain ⟨v, st₀, t, T', L, h0', X', hL, e1, e2, ⟨⟨hv, hb⟩, hz, hk⟩, stp⟩ := run T hT X0
  cases hv
  rw [h0'] at hz hk
  have hk2 : ∀ q : Nat, q < H.size → T'.heap[q]? = H[q]? := fun q g => by
    rw [e1]
    refine hk q g (fun z => ?_)
    rcases z with ⟨k, z, -⟩ | z
    · exact absurd z (by simp)
    · omega
  obtain ⟨t2, a1, b1⟩ := kk p e s m args below meth cd C T'.heap (locs ++ L) ls (hP.kept (fun k q h => hk2 q.1 ((hP k q h).lt))) hD
    ⟨Nat.le_trans hS.1 (by rw [e1]; exact hz), fun q g1 g2 => by rw [hk2 q (Nat.lt_of_lt_of_le g1 hS.1)]; exact hS.2.1 q g1 g2, fun q hq => by
      rcases List.mem_append.mp hq with h | h
      · exact hS.2.2 q h
      · exact hle _ (hL q h)⟩ hl T' rfl X'
  exact ⟨t2, stp t2 a1, b1⟩
theorem q_KcallW {idx nn b : Nat} {v : Int32} (f : Nat → Nat) (w0 w1 : q_W) (wr : va_W) (isC isR : List Nat) (hd : q_d M pc 3 (.invokevirtual idx) nx) (hV : q_CV M.1 idx M' nn) (hC : q_Ct (X.1, X.2.1, f) S_W l M' d' q_tV [.ref 0, .int v] w0 (some ((), w1))) (hf : ∀ k, 1000 ≤ k → f k = X.2.2 k) (hci : M'.2.1.cls = RX6) (hCm : isC.map (fun i => ws[i]?) = (q_ws (X.1, X.2.1, f) S_W w0).map some) (hRm : isR.map (fun i => ws[i]?) = wr.map some) (hnC : va_nd isC = true) (hnR : va_nd isR = true) (hdis : ∀ i ∈ isR, i ∉ isC) (hb : f 0 = b) (hn : nn = 1) (hw : (st.map fun v => v.category).sum ≤ 8) (hdd : d' + 1 ≤ d) (hcm : c ≤ mc) (hnm : n ≤ ms) (kk : q_KJ X l M d mc ms h0 post nx lv (st) (wr ++ q_ws (X.1, X.2.1, f) S_W w1) c n) : q_KJ X l M d mc ms h0 post pc lv (.int v :: .ref b :: st) ws c n := by
  obtain ⟨hd, rfl⟩ := hd
  subst hb
  subst hn
  intro p e s m args below meth cd C H locs ls hP hD hS hl
  obtain ⟨hx, hb', hml, hown, hts, hr, hlk, hin, hK, hst, hnw⟩ := id C
  obtain ⟨v1, v2, v3, v4, v5, v6, v7⟩ := hV
  have hM := hC () w1 rfl H.size
  have hDc := hD.sub isC hnC hCm
  have hPc : va_P X.1 q_cl (q_ws (X.1, X.2.1, f) S_W w0) H := by
    intro k q hk
    have h1 : (isC.map (fun i => ws[i]?))[k]? = some (some q) := by rw [hCm, List.getElem?_map, hk]; rfl
    rw [List.getElem?_map] at h1
    cases hi : isC[k]? with
    | none => rw [hi] at h1; cases h1
    | some i => rw [hi] at h1; exact hP i q (Option.some.inj h1)
  have hok : q_ok (X.1, X.2.1, f) S_W := ⟨fun i j hi hj hij => hDc.1 i j _ _ (q_ws_at (X.1, X.2.1, f) S_W w0 hi) (q_ws_at (X.1, X.2.1, f) S_W w0 hj) hij, cW_lt⟩
  have hAA : ∀ q, q_A (X.1, X.2.1, f) S_W H.size q ↔ va_A (q_ws (X.1, X.2.1, f) S_W w0) H.size q := by
    intro q
    constructor
    · intro h
      rcases h with ⟨k, h, rfl⟩ | h
      · exact Or.inl ⟨k, _, q_ws_at (X.1, X.2.1, f) S_W w0 h⟩
      · exact Or.inr h
    · intro h
      rcases h with ⟨k, e, h⟩ | h
      · obtain ⟨h1, h2⟩ := q_ws_in h
        exact Or.inl ⟨k, h1, congrArg Prod.fst h2⟩
      · exact Or.inr h
  have hle : ∀ q, q_A (X.1, X.2.1, f) S_W H.size q → q_KA h0 s.heap.size q := by
    intro q h
    rcases h with ⟨k, h, rfl⟩ | h
    · exact hDc.2 k _ (q_ws_at (X.1, X.2.1, f) S_W w0 h)
    · exact Or.inr (Nat.le_trans hS.1 h)
  have hrec : ∃ cell : Cell, H[f 0]? = some cell ∧ cell.vm.isStatics = false ∧ s.vm.findClass M'.2.1.cls = some cell.cls := by
    rw [hci]
    exact va_recv hK hPc (a := f 0) (ci := 6) (q0 := 0) (q := (RX6, TX6, 4)) rfl (by rw [q_ws_at (X.1, X.2.1, f) S_W w0 (by decide), q_ce_o (ci := 6) rfl (by decide)])
  have hG : GoodIn (q_wm M) (wsV M.1 idx M'.2.1.cls M'.2.1 (q_wm M')) := q_goodT (fun w hw => by
    rcases List.mem_append.mp hw with h | h
    · rcases List.mem_cons.mp h with rfl | h
      · exact v1
      · rcases List.mem_cons.mp h with rfl | h
        · exact v2
        · rcases List.mem_cons.mp h with rfl | h
          · exact v3
          · rcases List.mem_cons.mp h with rfl | h
            · exact v4
            · cases h
    · exact q_goodM (M := M) v5 w h)
  have run : va_Run p l e (q_KR d mc ms) s m args below meth cd H locs c n 0 0 (F0 m pc ls (.int v :: .ref (f 0) :: st)) st (q_Q (X.1, X.2.1, f) S_W (q_A (X.1, X.2.1, f) S_W H.size) (q_tV ()) w1 [Value.ref (f 0), .int v].toArray) (q_A (X.1, X.2.1, f) S_W H.size) := va_runV (As := [.int v]) (rest := st) (b := f 0) (C := M'.2.1.cls) ⟨hx, hb', hml, hown, hts⟩ hM (cwV 1 hts hG rfl rfl rfl ⟨rfl, v6⟩ ⟨hdd, by show 8 + (M'.2.2.2.1 + 11) + 100 * d' ≤ 100 * d; omega⟩) ⟨q_blind, hrec, fun U hU hW => ⟨rfl, by rw [hU], by rw [hU]; exact hPc, va_K.moved hW.alike hK, hok, q_st_S0 hst hS hle hf hU hW⟩⟩ rfl rfl hl.1 rfl (lv_room hw) hd ⟨hcm, hnm⟩
  intro T hT X0
  obtain ⟨v, st₀, t, T', L, h0', X', hL, e1, e2, ⟨⟨hv, hPb⟩, hz, hk⟩, stp⟩ := run T hT X0
  cases hv
  rw [h0'] at hz hk
  have hk1 : ∀ q : Nat, q < H.size → ¬ va_A (q_ws (X.1, X.2.1, f) S_W w0) H.size q → T'.heap[q]? = H[q]? := fun q g1 g2 => by rw [e1]; exact hk q g1 (fun z => g2 ((hAA q).mp z))
  have hD1 : va_D (va_A (q_ws (X.1, X.2.1, f) S_W w0) H.size) (q_ws (X.1, X.2.1, f) S_W w1) := (q_ws_D w1 H.size hok).weaken (fun _ _ _ z => (hAA _).mp z)
  obtain ⟨hP2, hD2⟩ := va_join hP hD isC isR hCm hRm hnR hdis hk1 (fun q z => hle q ((hAA q).mpr z)) (by rw [e1]; exact hPb) hD1
  obtain ⟨t2, a1, b1⟩ := kk p e s m args below meth cd C T'.heap (locs ++ L) ls hP2 hD2
    ⟨Nat.le_trans hS.1 (by rw [e1]; exact hz), fun q g1 g2 => by rw [e1, hk q (Nat.lt_of_lt_of_le g1 hS.1) (fun z => g2 (hle q z))]; exact hS.2.1 q g1 g2, fun q hq => by
      rcases List.mem_append.mp hq with h | h
      · exact hS.2.2 q h
      · exact hle _ (hL q h)⟩ hl T' rfl X'
  exact ⟨t2, stp t2 a1, b1⟩
end QK2
