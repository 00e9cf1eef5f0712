/-! ===== the law: two worlds side by side, and the script ===== -/
def R_law : String := "MarbleBathLaw"
abbrev mL : q_M := (R_law, x, code, 4, ret)
def lw_P (b : Addr) (xs : List Int32) (args : Array Value) (s : State) : Prop := args = #[.ref b] ∧ s.IntsAt b xs ∧ xs.length ≤ 3584 ∧ (Jvm.Cond.and given_1 narrow_1).before args s = true
def lw_Q (_ : Array Value) (s : State) (o : Outcome) (t : State) : Prop := o = .returned (some (.int 1)) ∧ Framed s o t [] 600000 7302250
def lw_Z (below : List Frame) (a : Array Value) (s : State) : State → Prop := fun t => ∃ o, t.status = .running ∧ Ended t below o ∧ lw_Q a s o t
/-- the law's own end, with 1 on the stack, nothing written that was there before, its room as the claim has it -/
theorem lw_ret {p : Program} {l : Launch} {e : Env} {s : State} {m : MethodId} {below : List Frame} {meth : Method} {c : Code} {b : Nat} (hx : p.tables.exec = Jvm.exec) (hb : c.code = code) (hr : meth.sig.returnType = ret) (hlocks : meth.locks = false) {pc : Nat} {H : Heap} {ls : Array Slot} (hdg : decode code pc = .ok (.ireturn, 1)) : W p l e room_1 s m #[Value.ref b] below meth c H [] 600000 7302250 (lw_Z below #[Value.ref b] s) (F0 m pc ls [.int 1]) := by
  intro T hT X
  obtain ⟨fs, hret, hrun, hended, hW, hframe⟩ := X.leave (v := some (.int 1)) (hlocks := hlocks) (fun h => by rw [hr] at h; cases h)
  have hmeth' : T.vm.method? m = some meth := X.method'
  refine ⟨T.setFrames fs, ?_, .returned (some (.int 1)), hrun, hended, rfl, ⟨_, rfl⟩, hW, hframe⟩
  jvm_step X.here [X.here.top, hx, hb, hdg, hmeth', hr, ret, narrow_b1]
  (try refine ⟨rfl, ?_⟩); (try refine ⟨rfl, ?_⟩)
  first | (intro acts; rw [hret _ acts rfl rfl rfl]) | rw [hret _ _ rfl rfl rfl]
  exact Steps.refl _
/-- what holds at the law's entry: the machine, the code, the tables' words (any of lw_tbl by 'hts w (by decide +kernel)'), the script of L ints xs at the cell b, what the Statement gives of the start (any of its parts by flat_of_before) -/
def lw_At (p : Program) (s : State) (m : MethodId) (meth : Method) (c : Code) (b L : Nat) (xs : Nat → Int32) : Prop :=
  p.tables.exec = Jvm.exec ∧ c.code = code ∧ meth.sig.returnType = ret ∧ c.maxLocals = 4 ∧ s.vm.findClass R_law = some m.cls ∧ (∀ w ∈ lw_tbl, w.before #[Value.ref b] s = true) ∧ va_X b L xs s s.heap ∧ b < s.heap.size ∧ meth.locks = false ∧ (Jvm.Cond.and given_1 narrow_1).before #[Value.ref b] s = true
def q_LA (s : State) : Nat → Prop := fun q => s.heap.size ≤ q
def q_LC (X Y : q_X) (p : Program) (s : State) (m : MethodId) (meth : Method) (c : Code) (b L : Nat) (xs : Nat → Int32) : Prop :=
  lw_At p s m meth c b L xs ∧ Y.1 = X.1 ∧ Y.2.1 = X.2.1 ∧ va_K X.1 q_cl (q_tys X) s ∧ q_ok X S_C ∧ q_ok Y S_R ∧ q_st X (q_LA s) s ∧ q_st Y (q_LA s) s ∧ (∀ k, k < S_C.1 → s.heap.size ≤ X.2.2 k) ∧ (∀ k, k < S_R.1 → s.heap.size ≤ Y.2.2 k) ∧ ∀ i j, i < S_C.1 → j < S_R.1 → X.2.2 i ≠ Y.2.2 j
def q_LJ (l : Launch) (X Y : q_X) (b L : Nat) (xs : Nat → Int32) (pc : Nat) (lv : List (Nat × Value)) (st : List Value) (u v : q_W) : Prop :=
  ∀ (p : Program) (e : Env) (s : State) (m : MethodId) (below : List Frame) (meth : Method) (c : Code), q_LC X Y p s m meth c b L xs →
    ∀ (H : Heap) (locs : List Loc) (ls : Array Slot), va_P X.1 q_cl (q_ws X S_C u) H → va_P X.1 q_cl (q_ws Y S_R v) H → va_S (q_LA s) s.heap H locs → lv_has ls 4 lv →
      W p l e room_1 s m #[Value.ref b] below meth c H locs 600000 7302250 (lw_Z below #[Value.ref b] s) (F0 m pc ls st)
theorem q_st_law {X : q_X} {S : q_S} {s U : State} {H : Heap} {locs : List Loc} (h : q_st X (q_LA s) s) (hS : va_S (q_LA s) s.heap H locs) (hA : ∀ q, q_A X S H.size q → q_LA s q) (hW : s.WarmedH U.vm) (hU : U.heap = H) : q_st X (q_A X S H.size) U := by
  subst hU
  have hvm := hW.alike
  obtain ⟨h0, h3, h4, h5, h6⟩ := h
  refine ⟨fun j hj => ?_, ((h3.kept hS.2.1).moved hvm).narrow hA, fun i hi => vk_R.warm hW (h4 i hi), ((h5.kept hS.2.1).moved hvm).narrow hA, h6.imp (fun z => ((z.kept hS.2.1).moved hvm).narrow hA) (fun z => ((z.kept hS.2.1).moved hvm).narrow hA)⟩
  obtain ⟨h1, h2⟩ := h0 j hj
  exact ⟨((h1.kept hS.2.1).moved hvm).narrow hA, ((h2.kept hS.2.1).moved hvm).narrow hA⟩
/-- a call from the law on one of the two objects: the other's cells stay -/
theorem q_LcallG {l : Launch} {X Z : q_X} {S S2 : q_S} {b L : Nat} {xs : Nat → Int32} {M' : q_M} {d' : Nat} {pc idx n ci : Nat} {As st : List Value} {u u' v : q_W} {r : Int32} {p : Program} {e : Env} {s : State} {m : MethodId} {below : List Frame} {meth : Method} {c : Code} {H : Heap} {locs : List Loc} {ls : Array Slot} {Q : State → Prop}
    (hd : decode code pc = .ok (.invokevirtual idx, 3)) (hV : q_CV R_law idx M' n) (hC : q_Ct X S l M' d' q_tI (.ref 0 :: As) u (some (r, u'))) (hci0 : S.2.1 0 = ci) (hci : q_cl[ci]?.map (fun q => q.1) = some M'.2.1.cls) (hc : ci < 100) (hB : As.map (q_cv X) = As) (hn : As.length = n) (hw : (st.map fun v => v.category).sum ≤ 8) (hdd : d' ≤ 800)
    (hAt : lw_At p s m meth c b L xs) (hK : va_K X.1 q_cl (q_tys X) s) (hok : q_ok X S) (hst : q_st X (q_LA s) s) (hge : ∀ k, k < S.1 → s.heap.size ≤ X.2.2 k) (hdis : ∀ i j, i < S.1 → j < S2.1 → X.2.2 i ≠ Z.2.2 j) (hP : va_P X.1 q_cl (q_ws X S u) H) (hP2 : va_P X.1 q_cl (q_ws Z S2 v) H) (hS : va_S (q_LA s) s.heap H locs) (hl : ls.size = 4)
    (kk : ∀ (H1 : Heap) (locs1 : List Loc), va_P X.1 q_cl (q_ws X S u') H1 → va_P X.1 q_cl (q_ws Z S2 v) H1 → va_S (q_LA s) s.heap H1 locs1 → W p l e room_1 s m #[Value.ref b] below meth c H1 locs1 600000 7302250 Q (F0 m (pc + 3) ls (.int r :: st))) : W p l e room_1 s m #[Value.ref b] below meth c H locs 600000 7302250 Q (F0 m pc ls (As.reverse ++ .ref (X.2.2 0) :: st)) := by
  obtain ⟨hx, hb, hr, hml, hown, hts, hX, hbl, hlocks, hgv⟩ := hAt
  obtain ⟨v1, v2, v3, v4, v5, v6, v7⟩ := hV
  have hbn : 0 < S.1 := hok.2 0 (by rw [hci0]; omega)
  have hM := hC r u' rfl H.size
  have hle : ∀ q, q_A X S H.size q → q_LA s q := by
    intro q h
    rcases h with ⟨k, h, rfl⟩ | h
    · exact hge k h
    · exact Nat.le_trans hS.1 h
  have hrec : ∃ cell : Cell, H[X.2.2 0]? = some cell ∧ cell.vm.isStatics = false ∧ s.vm.findClass M'.2.1.cls = some cell.cls := by
    cases hq : q_cl[ci]? with
    | none => rw [hq] at hci; cases hci
    | some q =>
      rw [hq] at hci
      have h9 : q.1 = M'.2.1.cls := Option.some.inj hci
      have h8 := va_recv hK hP (a := X.2.2 0) (ci := ci) (q0 := 0) hq (by rw [q_ws_at X S u hbn, q_ce_o hci0 hc])
      rw [h9] at h8
      exact h8
  have inL : ∀ w, w ∈ q_tb → w ∈ lw_tbl := fun w h => (List.mem_filter.mp h).1
  have hG0 : ∀ w ∈ wsV R_law idx M'.2.1.cls M'.2.1 (q_wm M'), w ∈ q_tb := fun w hw => by
    rcases List.mem_append.mp hw with h | h
    · rcases List.mem_cons.mp h with rfl | h
      · exact v1
      · rcases List.mem_cons.mp h with rfl | h
        · exact v2
        · rcases List.mem_cons.mp h with rfl | h
          · exact v3
          · rcases List.mem_cons.mp h with rfl | h
            · exact v4
            · cases h
    · exact q_goodM (M := M') v5 w h
  have hG : GoodIn lw_tbl (wsV R_law idx M'.2.1.cls M'.2.1 (q_wm M')) := fun w hw => ⟨inL w (hG0 w hw), good_of_word (q_tb_good w (hG0 w hw))⟩
  have run : va_Run p l e room_1 s m #[Value.ref b] below meth c H locs 600000 7302250 0 0 (F0 m pc ls (As.reverse ++ .ref (X.2.2 0) :: st)) st (q_Q X S (q_A X S H.size) (q_tI r) u' (Value.ref (X.2.2 0) :: As.map (q_cv X)).toArray) (q_A X S H.size) := va_runV (As := As.map (q_cv X)) (rest := st) (b := X.2.2 0) (C := M'.2.1.cls) ⟨hx, hb, hml, hown, hts⟩ hM (cwV n hts hG rfl rfl rfl ⟨rfl, v6⟩ ⟨by show d' + 1 ≤ 2048; omega, by show 8 + (M'.2.2.2.1 + 11) + 100 * d' ≤ 84000; omega⟩) ⟨q_blind, hrec, fun U hU hW => ⟨rfl, by rw [hU], by rw [hU]; exact hP, va_K.moved hW.alike hK, hok, q_st_law hst hS hle hW hU⟩⟩ rfl (by rw [List.length_map]; exact hn) hl (by rw [hB]) (lv_room hw) hd ⟨Nat.le_refl _, Nat.le_refl _⟩
  intro T hT X0
  obtain ⟨v', st₀, t, T', L', h0', X', hL, e1, e2, ⟨⟨hv, hb'⟩, hz, hk⟩, stp⟩ := run T hT X0
  cases hv
  rw [h0'] at hz hk
  obtain ⟨t2, a1, b1⟩ := kk T'.heap (locs ++ L') (by rw [e1]; exact hb') (hP2.kept (fun k q h => by
      rw [e1]
      refine hk q.1 ((hP2 k q h).lt) (fun z => ?_)
      obtain ⟨g1, rfl⟩ := q_ws_in h
      rcases z with ⟨i, hi, z⟩ | z
      · exact hdis i k hi g1 z.symm
      · exact absurd ((hP2 k _ h).lt) (Nat.not_lt.mpr z)))
    ⟨Nat.le_trans hS.1 (by rw [e1]; exact hz), fun q g1 g2 => by rw [e1, hk q (Nat.lt_of_lt_of_le g1 hS.1) (fun z => g2 (hle q z))]; exact hS.2.1 q g1 g2, fun q hq => by
      rcases List.mem_append.mp hq with h | h
      · exact hS.2.2 q h
      · exact hle _ (hL q h)⟩ T' rfl X'
  exact ⟨t2, stp t2 a1, b1⟩
section QL
variable {l : Launch} {X Y : q_X} {b L : Nat} {xs : Nat → Int32} {pc nx : Nat} {lv : List (Nat × Value)} {st : List Value} {u v : q_W}
theorem q_LcallC {M' : q_M} {d' idx n : Nat} {As stk : List Value} {r : Int32} {u' : q_W} (hd : q_d mL pc 3 (.invokevirtual idx) nx) (hV : q_CV R_law idx M' n) (hC : q_Ct X S_C l M' d' q_tI (.ref 0 :: As) u (some (r, u'))) (hci : q_cl[10]?.map (fun q => q.1) = some M'.2.1.cls) (hB : As.map (q_cv X) = As) (hn : As.length = n) (hs : stk = As.reverse ++ .ref (X.2.2 0) :: st) (hw : (st.map fun v => v.category).sum ≤ 8) (hdd : d' ≤ 800) (kk : q_LJ l X Y b L xs nx lv (.int r :: st) u' v) : q_LJ l X Y b L xs pc lv stk u v := by
  obtain ⟨hd, rfl⟩ := hd
  subst hs
  intro p e s m below meth c C H locs ls hP hP2 hS hl
  obtain ⟨hAt, y1, y2, hK, hok, hokY, hst, hstY, hge, hgeY, hdis⟩ := id C
  exact q_LcallG (Z := Y) (S2 := S_R) hd hV hC rfl hci (by decide) hB hn hw hdd hAt hK hok hst hge hdis hP hP2 hS hl.1 (fun H1 locs1 hP1 hP21 hS1 => kk p e s m below meth c C H1 locs1 ls hP1 hP21 hS1 hl)
theorem q_LcallR {M' : q_M} {d' idx n : Nat} {As stk : List Value} {r : Int32} {v' : q_W} (hd : q_d mL pc 3 (.invokevirtual idx) nx) (hV : q_CV R_law idx M' n) (hC : q_Ct Y S_R l M' d' q_tI (.ref 0 :: As) v (some (r, v'))) (hci : q_cl[11]?.map (fun q => q.1) = some M'.2.1.cls) (hB : As.map (q_cv Y) = As) (hn : As.length = n) (hs : stk = As.reverse ++ .ref (Y.2.2 0) :: st) (hw : (st.map fun v => v.category).sum ≤ 8) (hdd : d' ≤ 800) (kk : q_LJ l X Y b L xs nx lv (.int r :: st) u v') : q_LJ l X Y b L xs pc lv stk u v := by
  obtain ⟨hd, rfl⟩ := hd
  subst hs
  intro p e s m below meth c C H locs ls hP hP2 hS hl
  obtain ⟨hAt, y1, y2, hK, hok, hokY, hst, hstY, hge, hgeY, hdis⟩ := id C
  refine q_LcallG (Z := X) (S2 := S_C) hd hV hC rfl hci (by decide) hB hn hw hdd hAt (by unfold q_tys; rw [y1, y2]; exact hK) hokY hstY hgeY (fun i j hi hj z => hdis j i hj hi z.symm) (by rw [y1]; exact hP2) (by rw [y1]; exact hP) hS hl.1 (fun H1 locs1 hP1 hP21 hS1 => ?_)
  rw [y1] at hP1 hP21
  exact kk p e s m below meth c C H1 locs1 ls hP21 hP1 hS1 hl
theorem q_Liload_n {z : Fin 4} {i : Nat} {a : Int32} (j : Nat) (hd : q_d mL pc 1 (.iload_n z) nx) (hi : (z : Nat) = i) (hj : lv[j]? = some (i, .int a)) (kk : q_LJ l X Y b L xs nx lv (.int a :: st) u v) : q_LJ l X Y b L xs pc lv st u v := by
  obtain ⟨hd, rfl⟩ := hd
  intro p e s m below meth c C H locs ls hP hP2 hS hl
  exact lv_iload_n C.1.1 C.1.2.1 hd hi (lv_at hl j hj) (kk p e s m below meth c C H locs ls hP hP2 hS hl)
theorem q_Laload_n {z : Fin 4} {i a : Nat} (j : Nat) (hd : q_d mL pc 1 (.aload_n z) nx) (hi : (z : Nat) = i) (hj : lv[j]? = some (i, .ref a)) (kk : q_LJ l X Y b L xs nx lv (.ref a :: st) u v) : q_LJ l X Y b L xs pc lv st u v := by
  obtain ⟨hd, rfl⟩ := hd
  intro p e s m below meth c C H locs ls hP hP2 hS hl
  exact lv_aload_n C.1.1 C.1.2.1 hd hi (lv_at hl j hj) (kk p e s m below meth c C H locs ls hP hP2 hS hl)
theorem q_Liconst {z : Int} {a : Int32} (hd : q_d mL pc 1 (.iconst z) nx) (hv : Int32.ofInt z = a) (kk : q_LJ l X Y b L xs nx lv (.int a :: st) u v) : q_LJ l X Y b L xs pc lv st u v := by
  obtain ⟨hd, rfl⟩ := hd
  intro p e s m below meth c C H locs ls hP hP2 hS hl
  exact lv_iconst C.1.1 C.1.2.1 hd hv (kk p e s m below meth c C H locs ls hP hP2 hS hl)
theorem q_Lbipush {z : Int} {a : Int32} (hd : q_d mL pc 2 (.bipush z) nx) (hv : (Int8.ofInt z).toInt32 = a) (kk : q_LJ l X Y b L xs nx lv (.int a :: st) u v) : q_LJ l X Y b L xs pc lv st u v := by
  obtain ⟨hd, rfl⟩ := hd
  intro p e s m below meth c C H locs ls hP hP2 hS hl
  exact lv_bipush C.1.1 C.1.2.1 hd hv (kk p e s m below meth c C H locs ls hP hP2 hS hl)
theorem q_Liadd {a a' : Int32} (hd : q_d mL pc 1 .iadd nx) (kk : q_LJ l X Y b L xs nx lv (.int (a + a') :: st) u v) : q_LJ l X Y b L xs pc lv (.int a' :: .int a :: st) u v := by
  obtain ⟨hd, rfl⟩ := hd
  intro p e s m below meth c C H locs ls hP hP2 hS hl
  exact lv_iadd C.1.1 C.1.2.1 hd (kk p e s m below meth c C H locs ls hP hP2 hS hl)
theorem q_Lisub {a a' : Int32} (hd : q_d mL pc 1 .isub nx) (kk : q_LJ l X Y b L xs nx lv (.int (a - a') :: st) u v) : q_LJ l X Y b L xs pc lv (.int a' :: .int a :: st) u v := by
  obtain ⟨hd, rfl⟩ := hd
  intro p e s m below meth c C H locs ls hP hP2 hS hl
  exact lv_isub C.1.1 C.1.2.1 hd (kk p e s m below meth c C H locs ls hP hP2 hS hl)
theorem q_Liand {a a' : Int32} (hd : q_d mL pc 1 .iand nx) (kk : q_LJ l X Y b L xs nx lv (.int (a &&& a') :: st) u v) : q_LJ l X Y b L xs pc lv (.int a' :: .int a :: st) u v := by
  obtain ⟨hd, rfl⟩ := hd
  intro p e s m below meth c C H locs ls hP hP2 hS hl
  exact lv_iand C.1.1 C.1.2.1 hd (kk p e s m below meth c C H locs ls hP hP2 hS hl)
theorem q_Lslen (hd : q_d mL pc 1 .arraylength nx) (kk : q_LJ l X Y b L xs nx lv (.int (Int32.ofNat L) :: st) u v) : q_LJ l X Y b L xs pc lv (.ref b :: st) u v := by
  obtain ⟨hd, rfl⟩ := hd
  intro p e s m below meth c C H locs ls hP hP2 hS hl
  obtain ⟨hx, hb, hr, hml, hown, hts, hX, hbl, hlocks, hgv⟩ := id C.1
  exact va_slen hx hb hX hbl (Nat.not_le.mpr hbl) hS hd (kk p e s m below meth c C H locs ls hP hP2 hS hl)
theorem q_Lsld {i : Int32} (hd : q_d mL pc 1 .iaload nx) (hin : vp_in i L) (kk : q_LJ l X Y b L xs nx lv (.int (xs i.toNatClampNeg) :: st) u v) : q_LJ l X Y b L xs pc lv (.int i :: .ref b :: st) u v := by
  obtain ⟨hd, rfl⟩ := hd
  intro p e s m below meth c C H locs ls hP hP2 hS hl
  obtain ⟨hx, hb, hr, hml, hown, hts, hX, hbl, hlocks, hgv⟩ := id C.1
  exact va_sld hx hb hX hbl (Nat.not_le.mpr hbl) hS hin hd (kk p e s m below meth c C H locs ls hP hP2 hS hl)
theorem q_Licmp_gt {a a' : Int32} {off : Int} {tgt : Nat} (hd : q_d mL pc 3 (.if_icmp .gt off) nx) (ht : (pc : Int) + off = (tgt : Int)) (k1 : a' < a → q_LJ l X Y b L xs tgt lv st u v) (k2 : ¬ a' < a → q_LJ l X Y b L xs nx lv st u v) : q_LJ l X Y b L xs pc lv (.int a' :: .int a :: st) u v := by
  obtain ⟨hd, rfl⟩ := hd
  intro p e s m below meth c C H locs ls hP hP2 hS hl
  exact lv_icmp_gt C.1.1 C.1.2.1 hd ht (fun z => k1 z p e s m below meth c C H locs ls hP hP2 hS hl) (fun z => k2 z p e s m below meth c C H locs ls hP hP2 hS hl)
theorem q_Licmp_eq {a : Int32} {off : Int} {tgt : Nat} (hd : q_d mL pc 3 (.if_icmp .eq off) nx) (ht : (pc : Int) + off = (tgt : Int)) (k1 : q_LJ l X Y b L xs tgt lv st u v) : q_LJ l X Y b L xs pc lv (.int a :: .int a :: st) u v := by
  obtain ⟨hd, rfl⟩ := hd
  intro p e s m below meth c C H locs ls hP hP2 hS hl
  exact lv_icmp_eq C.1.1 C.1.2.1 hd ht (fun _ => k1 p e s m below meth c C H locs ls hP hP2 hS hl) (fun z => absurd rfl z)
theorem q_Lgoto {off : Int} {tgt : Nat} (hd : q_d mL pc 3 (.goto off) nx) (ht : (pc : Int) + off = (tgt : Int)) (kk : q_LJ l X Y b L xs tgt lv st u v) : q_LJ l X Y b L xs pc lv st u v := by
  obtain ⟨hd, rfl⟩ := hd
  intro p e s m below meth c C H locs ls hP hP2 hS hl
  exact lv_goto C.1.1 C.1.2.1 hd ht (kk p e s m below meth c C H locs ls hP hP2 hS hl)
theorem q_Liinc {i : Nat} {z : Int} {a a' : Int32} {lv' : List (Nat × Value)} (j : Nat) (hd : q_d mL pc 3 (.iinc i z) nx) (hj : lv[j]? = some (i, .int a)) (hv : a + Int32.ofInt z = a') (hn : i < 4) (hl0 : (i, Value.int a') :: lv.filter (fun q => !(q.1 == i) && !(q.1 + 1 == i && q.2.category == 2)) = lv') (kk : q_LJ l X Y b L xs nx lv' st u v) : q_LJ l X Y b L xs pc lv st u v := by
  obtain ⟨hd, rfl⟩ := hd
  intro p e s m below meth c C H locs ls hP hP2 hS hl
  exact lv_iinc C.1.1 C.1.2.1 hd hl (k := j) hj hv hn hl0 (fun ls hl => kk p e s m below meth c C H locs ls hP hP2 hS hl)
theorem q_LtabOut {dflt lo hi : Int} {offs : Array Int} {len : Nat} {a : Int32} {tgt : Nat} (hd : q_d mL pc len (.tableswitch dflt lo hi offs) nx) (h : a.toInt < lo ∨ hi < a.toInt) (ht : (pc : Int) + dflt = (tgt : Int)) (kk : q_LJ l X Y b L xs tgt lv st u v) : q_LJ l X Y b L xs pc lv (.int a :: st) u v := by
  obtain ⟨hd, rfl⟩ := hd
  intro p e s m below meth c C H locs ls hP hP2 hS hl
  exact lv_tableOut C.1.1 C.1.2.1 hd h ht (kk p e s m below meth c C H locs ls hP hP2 hS hl)
theorem q_LtabIn {dflt lo hi : Int} {offs : Array Int} {len : Nat} {a : Int32} {off : Int} {tgt : Nat} (hd : q_d mL pc len (.tableswitch dflt lo hi offs) nx) (h1 : ¬ a.toInt < lo) (h2 : ¬ hi < a.toInt) (ho : offs[(a.toInt - lo).toNat]? = some off) (ht : (pc : Int) + off = (tgt : Int)) (kk : q_LJ l X Y b L xs tgt lv st u v) : q_LJ l X Y b L xs pc lv (.int a :: st) u v := by
  obtain ⟨hd, rfl⟩ := hd
  intro p e s m below meth c C H locs ls hP hP2 hS hl
  exact lv_tableIn C.1.1 C.1.2.1 hd h1 h2 ho ht (kk p e s m below meth c C H locs ls hP hP2 hS hl)
theorem q_Lret (hd : q_d mL pc 1 .ireturn nx) : q_LJ l X Y b L xs pc lv [.int 1] u v := by
  obtain ⟨hd, rfl⟩ := hd
  intro p e s m below meth c C H locs ls hP hP2 hS hl
  obtain ⟨hx, hb, hr, hml, hown, hts, hX, hbl, hlocks, hgv⟩ := id C.1
  exact va_forget (fun q hq => hS.2.2 q hq) (lw_ret hx hb hr hlocks hd)
end QL
