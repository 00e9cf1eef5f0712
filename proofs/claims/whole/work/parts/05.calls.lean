/-! ===== a method's entry, calls, loops ===== -/
theorem q_intro {X : q_X} {S : q_S} {l : Launch} {M : q_M} {d : Nat} {ρ : Type} {tv : ρ → Option Value} {av : List Value} {lv : List (Nat × Value)} {w : q_W} {o : Option (ρ × q_W)} (hy : plainName M.2.1.cls = true) (hown : M.1 = M.2.1.cls) (hn : (lg_sl av).length ≤ M.2.2.2.1) (hlv : lv_args 0 av = lv) (k : q_J X S l M d tv 0 lv [] w o) : q_Ct X S l M d tv av w o := by
  intro r w' ho sz
  refine Met.ofW (cc := M.2.2.1) (maxL := M.2.2.2.1) (ret := M.2.2.2.2) hy rfl ?_
  intro p e s m args below meth c s₁ B hml hv
  obtain ⟨rfl, hsz, hP, hK, hok, hst⟩ := hv
  subst hsz
  have hts := atoms_spec (ws := q_wm M) B.pre
  have hown' : s.vm.findClass M.1 = some m.cls := by rw [hown]; exact findClass_of_methodNamed B.named
  have hl := lv_entry (av.map (q_cv X)) (n := M.2.2.2.1) (by rw [q_sl_len]; exact hn)
  rw [q_args, hlv] at hl
  rw [lg_entry_eq]
  exact k r w' ho p e s m _ below meth c ⟨B.exec, B.bytes, hml, hown', hts, B.returns, B.notSynchronized, hK, hok, hst⟩ s.heap [] _ hP va_S.rf hl
theorem q_run_k {p : Program} {l : Launch} {e : Env} {R : Room} {s : State} {m : MethodId} {args : Array Value} {below : List Frame} {meth : Method} {c : Code} {H : Heap} {locs : List Loc} {X : q_X} {S : q_S} {v1 : Option Value} {w1 : q_W} {Q : State → Prop} {pc : Nat} {ls : Array Slot} {st0 rest : List Value} {a : Array Value}
    (hr : va_Run p l e R s m args below meth c H locs 0 0 0 0 (F0 m pc ls st0) rest (q_Q X S (q_A X S H.size) v1 w1 a) (q_A X S H.size)) (hS : va_S (q_A X S s.heap.size) s.heap H locs)
    (kk : ∀ (H1 : Heap) (locs1 : List Loc), va_P X.1 q_cl (q_ws X S w1) H1 → va_S (q_A X S s.heap.size) s.heap H1 locs1 → W p l e R s m args below meth c H1 locs1 0 0 Q (F0 m (pc + 3) ls ((v1.map (q_cv X)).toList ++ rest))) : W p l e R s m args below meth c H locs 0 0 Q (F0 m pc ls st0) := by
  intro T hT X0
  obtain ⟨v, st₀, t, T', L, h0, X', hL, e1, e2, ⟨⟨hv, hb⟩, hz, hk⟩, st⟩ := hr T hT X0
  cases hv
  rw [h0] at hz hk
  obtain ⟨t2, a1, b1⟩ := kk T'.heap (locs ++ L) (by rw [e1]; exact hb)
    ⟨Nat.le_trans hS.1 (by rw [e1]; exact hz), fun q h1 h2 => by rw [e1, hk q (Nat.lt_of_lt_of_le h1 hS.1) (fun z => h2 (q_A_le hS.1 q z))]; exact hS.2.1 q h1 h2, fun q hq => by
      rcases List.mem_append.mp hq with h | h
      · exact hS.2.2 q h
      · exact q_A_le hS.1 _ (hL q h)⟩ T' rfl X'
  exact ⟨t2, st t2 a1, b1⟩
theorem q_blind {X : q_X} {S : q_S} {av : List Value} {sz : Nat} {w : q_W} : FrameBlind (va_Pc av (fun U => U.heap.size = sz ∧ q_WP X S sz w U)) := by
  intro a U g mk q
  obtain ⟨q0, q1, qP, qK, qO, qS⟩ := q
  exact ⟨q0, q1, qP, va_K.moved (u := U) (U := U.calling g mk a) (Vm.Alike.refl U.vm) qK, qO, q_st_mv (s := U) (U := U.calling g mk a) qS rfl rfl⟩
theorem q_goodM {M M' : q_M} (h : Cond.code M'.2.1 M'.2.2.1 M'.2.2.2.1 M'.2.2.2.2 ∈ q_tb) : ∀ w ∈ q_wm M', w ∈ q_tb := by
  intro w hw
  rcases List.mem_cons.mp hw with rfl | hw
  · exact h
  · exact hw
theorem q_goodT {M : q_M} {ws : List Cond} (h : ∀ w ∈ ws, w ∈ q_tb) : GoodIn (q_wm M) ws := fun w hw => ⟨List.mem_cons_of_mem _ (h w hw), good_of_word (q_tb_good w (h w hw))⟩
theorem q_callV {X : q_X} {S : q_S} {l : Launch} {M M' : q_M} {d d' : Nat} {ρ ρ' : Type} {tv : ρ → Option Value} {tv' : ρ' → Option Value} {pc nx idx n ci b : Nat} {lv : List (Nat × Value)} {As stk st : List Value} {w : q_W} {o1 : Option (ρ' × q_W)} {k2 : ρ' → q_W → Option (ρ × q_W)}
    (hd : q_d M pc 3 (.invokevirtual idx) nx) (hV : q_CV M.1 idx M' n) (hC : q_Ct X S l M' d' tv' (.ref b :: As) w o1) (hb : S.2.1 b = ci) (hci : q_cl[ci]?.map (fun q => q.1) = some M'.2.1.cls) (hc : ci < 100) (hn : As.length = n) (hs : stk = As.reverse ++ .ref b :: st) (hw : (st.map fun v => v.category).sum ≤ 8) (hdd : d' + 1 ≤ d)
    (k : ∀ r w1, q_J X S l M d tv nx lv ((tv' r).toList ++ st) w1 (k2 r w1)) : q_J X S l M d tv pc lv stk w (q_b o1 k2) := by
  obtain ⟨hd, rfl⟩ := hd
  subst hs
  intro r w' ho p e s m args below meth c C H locs ls hP hS hl
  obtain ⟨hx, hb', hml, hown, hts, hr, hlk, hK, hok, hst⟩ := id C
  obtain ⟨v1, v2, v3, v4, v5, v6, v7⟩ := hV
  have hbn : b < S.1 := hok.2 b (by rw [hb]; omega)
  cases o1 with
  | none => cases ho
  | some x =>
    obtain ⟨r1, w1⟩ := x
    have hM := hC r1 w1 rfl H.size
    have hrec : ∃ cell : Cell, H[X.2.2 b]? = some cell ∧ cell.vm.isStatics = false ∧ s.vm.findClass M'.2.1.cls = some cell.cls := by
      cases hq : q_cl[ci]? with
      | none => rw [hq] at hci; cases hci
      | some q =>
        rw [hq] at hci
        have h9 : q.1 = M'.2.1.cls := Option.some.inj hci
        have h8 := va_recv hK hP (a := X.2.2 b) (ci := ci) (q0 := b) hq (by rw [q_ws_at X S w hbn, q_ce_o hb hc])
        rw [h9] at h8
        exact h8
    have hG : GoodIn (q_wm M) (wsV M.1 idx M'.2.1.cls M'.2.1 (q_wm M')) := q_goodT (fun w hw => by
      rcases List.mem_append.mp hw with h | h
      · rcases List.mem_cons.mp h with rfl | h
        · exact v1
        · rcases List.mem_cons.mp h with rfl | h
          · exact v2
          · rcases List.mem_cons.mp h with rfl | h
            · exact v3
            · rcases List.mem_cons.mp h with rfl | h
              · exact v4
              · cases h
      · exact q_goodM (M := M) v5 w h)
    refine q_run_k (v1 := tv' r1) (w1 := w1) (rest := st.map (q_cv X)) (a := (Value.ref (X.2.2 b) :: As.map (q_cv X)).toArray) (va_runV (As := As.map (q_cv X)) (rest := st.map (q_cv X)) (b := X.2.2 b) (C := M'.2.1.cls) ⟨hx, hb', hml, hown, hts⟩ hM (cwV n hts hG rfl rfl rfl ⟨rfl, v6⟩ ⟨hdd, by show 8 + (M'.2.2.2.1 + 11) + 100 * d' ≤ 100 * d; omega⟩) ⟨q_blind, hrec, fun U hU hW => ⟨rfl, by rw [hU], by rw [hU]; exact hP, va_K.moved hW.alike hK, hok, q_st_go hst hS hW hU⟩⟩ rfl (by rw [List.length_map]; exact hn) hl.1 ?_ (lv_room (by rw [q_cats]; exact hw)) hd ⟨Nat.le_refl _, Nat.le_refl _⟩) hS (fun H1 locs1 hP1 hS1 => ?_)
    · show (As.reverse ++ .ref b :: st).map (q_cv X) = _
      rw [List.map_append, List.map_reverse]; rfl
    · have h7 := k r1 w1 r w' ho p e s m args below meth c C H1 locs1 ls hP1 hS1 hl
      rw [List.map_append] at h7
      have h6 : ((tv' r1).toList.map (q_cv X)) = ((tv' r1).map (q_cv X)).toList := by cases tv' r1 <;> rfl
      rw [h6] at h7
      exact h7
theorem q_callS {X : q_X} {S : q_S} {l : Launch} {M M' : q_M} {d d' : Nat} {ρ ρ' : Type} {tv : ρ → Option Value} {tv' : ρ' → Option Value} {pc nx idx n : Nat} {lv : List (Nat × Value)} {As stk st : List Value} {w : q_W} {o1 : Option (ρ' × q_W)} {k2 : ρ' → q_W → Option (ρ × q_W)}
    (hd : q_d M pc 3 (.invokestatic idx) nx) (hV : q_CS M.1 idx M' n) (hC : q_Ct X S l M' d' tv' As w o1) (hn : As.length = n) (hs : stk = As.reverse ++ st) (hw : (st.map fun v => v.category).sum ≤ 8) (hdd : d' + 1 ≤ d)
    (k : ∀ r w1, q_J X S l M d tv nx lv ((tv' r).toList ++ st) w1 (k2 r w1)) : q_J X S l M d tv pc lv stk w (q_b o1 k2) := by
  obtain ⟨hd, rfl⟩ := hd
  subst hs
  intro r w' ho p e s m args below meth c C H locs ls hP hS hl
  obtain ⟨hx, hb', hml, hown, hts, hr, hlk, hK, hok, hst⟩ := id C
  obtain ⟨v1, v2, v3, v5, v6, v7⟩ := hV
  cases o1 with
  | none => cases ho
  | some x =>
    obtain ⟨r1, w1⟩ := x
    have hM := hC r1 w1 rfl H.size
    have hG : GoodIn (q_wm M) (va_wsS M.1 idx M'.2.1 (q_wm M')) := q_goodT (fun w hw => by
      rcases List.mem_append.mp hw with h | h
      · rcases List.mem_cons.mp h with rfl | h
        · exact v1
        · rcases List.mem_cons.mp h with rfl | h
          · exact v2
          · rcases List.mem_cons.mp h with rfl | h
            · exact v3
            · cases h
      · exact q_goodM (M := M) v5 w h)
    refine q_run_k (v1 := tv' r1) (w1 := w1) (rest := st.map (q_cv X)) (a := (As.map (q_cv X)).toArray) (va_runS (As := As.map (q_cv X)) (rest := st.map (q_cv X)) ⟨hx, hb', hml, hown, hts⟩ hM (va_cwS n hts hG rfl rfl rfl v6 ⟨hdd, by show 8 + (M'.2.2.2.1 + 11) + 100 * d' ≤ 100 * d; omega⟩) ⟨q_blind, fun U hU hW => ⟨rfl, by rw [hU], by rw [hU]; exact hP, va_K.moved hW.alike hK, hok, q_st_go hst hS hW hU⟩⟩ rfl (by rw [List.length_map]; exact hn) hl.1 ?_ (lv_room (by rw [q_cats]; exact hw)) hd ⟨Nat.le_refl _, Nat.le_refl _⟩) hS (fun H1 locs1 hP1 hS1 => ?_)
    · show (As.reverse ++ st).map (q_cv X) = _
      rw [List.map_append, List.map_reverse]
    · have h7 := k r1 w1 r w' ho p e s m args below meth c C H1 locs1 ls hP1 hS1 hl
      rw [List.map_append] at h7
      have h6 : ((tv' r1).toList.map (q_cv X)) = ((tv' r1).map (q_cv X)).toList := by cases tv' r1 <;> rfl
      rw [h6] at h7
      exact h7
section QC
variable {X : q_X} {S : q_S} {l : Launch} {M M' : q_M} {d d' : Nat} {ρ : Type} {tv : ρ → Option Value} {pc nx idx n ci b : Nat} {lv : List (Nat × Value)} {As stk st : List Value} {w : q_W}
theorem q_callVI {o1 : Option (Int32 × q_W)} {k2 : Int32 → q_W → Option (ρ × q_W)} (hd : q_d M pc 3 (.invokevirtual idx) nx) (hV : q_CV M.1 idx M' n) (hC : q_Ct X S l M' d' q_tI (.ref b :: As) w o1) (hb : S.2.1 b = ci) (hci : q_cl[ci]?.map (fun q => q.1) = some M'.2.1.cls) (hc : ci < 100) (hn : As.length = n) (hs : stk = As.reverse ++ .ref b :: st) (hw : (st.map fun v => v.category).sum ≤ 8) (hdd : d' + 1 ≤ d) (k : ∀ r w1, q_J X S l M d tv nx lv (.int r :: st) w1 (k2 r w1)) : q_J X S l M d tv pc lv stk w (q_b o1 k2) := q_callV hd hV hC hb hci hc hn hs hw hdd k
theorem q_callVL {o1 : Option (Int64 × q_W)} {k2 : Int64 → q_W → Option (ρ × q_W)} (hd : q_d M pc 3 (.invokevirtual idx) nx) (hV : q_CV M.1 idx M' n) (hC : q_Ct X S l M' d' q_tL (.ref b :: As) w o1) (hb : S.2.1 b = ci) (hci : q_cl[ci]?.map (fun q => q.1) = some M'.2.1.cls) (hc : ci < 100) (hn : As.length = n) (hs : stk = As.reverse ++ .ref b :: st) (hw : (st.map fun v => v.category).sum ≤ 8) (hdd : d' + 1 ≤ d) (k : ∀ r w1, q_J X S l M d tv nx lv (.long r :: st) w1 (k2 r w1)) : q_J X S l M d tv pc lv stk w (q_b o1 k2) := q_callV hd hV hC hb hci hc hn hs hw hdd k
theorem q_callVR {o1 : Option (Nat × q_W)} {k2 : Nat → q_W → Option (ρ × q_W)} (hd : q_d M pc 3 (.invokevirtual idx) nx) (hV : q_CV M.1 idx M' n) (hC : q_Ct X S l M' d' q_tR (.ref b :: As) w o1) (hb : S.2.1 b = ci) (hci : q_cl[ci]?.map (fun q => q.1) = some M'.2.1.cls) (hc : ci < 100) (hn : As.length = n) (hs : stk = As.reverse ++ .ref b :: st) (hw : (st.map fun v => v.category).sum ≤ 8) (hdd : d' + 1 ≤ d) (k : ∀ r w1, q_J X S l M d tv nx lv (.ref r :: st) w1 (k2 r w1)) : q_J X S l M d tv pc lv stk w (q_b o1 k2) := q_callV hd hV hC hb hci hc hn hs hw hdd k
theorem q_callVV {o1 : Option (Unit × q_W)} {k2 : Unit → q_W → Option (ρ × q_W)} (hd : q_d M pc 3 (.invokevirtual idx) nx) (hV : q_CV M.1 idx M' n) (hC : q_Ct X S l M' d' q_tV (.ref b :: As) w o1) (hb : S.2.1 b = ci) (hci : q_cl[ci]?.map (fun q => q.1) = some M'.2.1.cls) (hc : ci < 100) (hn : As.length = n) (hs : stk = As.reverse ++ .ref b :: st) (hw : (st.map fun v => v.category).sum ≤ 8) (hdd : d' + 1 ≤ d) (k : ∀ r w1, q_J X S l M d tv nx lv st w1 (k2 r w1)) : q_J X S l M d tv pc lv stk w (q_b o1 k2) := q_callV hd hV hC hb hci hc hn hs hw hdd k
theorem q_callSI {o1 : Option (Int32 × q_W)} {k2 : Int32 → q_W → Option (ρ × q_W)} (hd : q_d M pc 3 (.invokestatic idx) nx) (hV : q_CS M.1 idx M' n) (hC : q_Ct X S l M' d' q_tI As w o1) (hn : As.length = n) (hs : stk = As.reverse ++ st) (hw : (st.map fun v => v.category).sum ≤ 8) (hdd : d' + 1 ≤ d) (k : ∀ r w1, q_J X S l M d tv nx lv (.int r :: st) w1 (k2 r w1)) : q_J X S l M d tv pc lv stk w (q_b o1 k2) := q_callS hd hV hC hn hs hw hdd k
theorem q_callSL {o1 : Option (Int64 × q_W)} {k2 : Int64 → q_W → Option (ρ × q_W)} (hd : q_d M pc 3 (.invokestatic idx) nx) (hV : q_CS M.1 idx M' n) (hC : q_Ct X S l M' d' q_tL As w o1) (hn : As.length = n) (hs : stk = As.reverse ++ st) (hw : (st.map fun v => v.category).sum ≤ 8) (hdd : d' + 1 ≤ d) (k : ∀ r w1, q_J X S l M d tv nx lv (.long r :: st) w1 (k2 r w1)) : q_J X S l M d tv pc lv stk w (q_b o1 k2) := q_callS hd hV hC hn hs hw hdd k
end QC
def q_CM (own : String) (idx : Nat) (y : MethodName) (cc : ByteArray) (n : Nat) : Prop := Cond.methodLink own idx y ∈ q_tb ∧ Cond.static y ∈ q_tb ∧ Cond.initialized "java/lang/Math" ∈ q_tb ∧ Cond.code y cc n (some .int) ∈ q_tb
def q_imin (x y : Int32) : Int32 := if y < x then y else x
def q_imax (x y : Int32) : Int32 := if x < y then y else x
def q_iabs (x : Int32) : Int32 := if 0 ≤ x then x else 0 - x
section QM
variable {X : q_X} {S : q_S} {l : Launch} {M : q_M} {d : Nat} {ρ : Type} {tv : ρ → Option Value} {pc nx idx : Nat} {lv : List (Nat × Value)} {st : List Value} {w : q_W} {o : Option (ρ × q_W)}
theorem q_mmin {x y : Int32} (hd : q_d M pc 3 (.invokestatic idx) nx) (hV : q_CM M.1 idx Lib.Math.min.name Lib.Math.min.code 2) (hw : (st.map fun v => v.category).sum ≤ 8) (hdd : 1 ≤ d) (k : q_J X S l M d tv nx lv (.int (q_imin x y) :: st) w o) : q_J X S l M d tv pc lv (.int y :: .int x :: st) w o := by
  obtain ⟨hd, rfl⟩ := hd
  intro r w' ho p e s m args below meth c C H locs ls hP hS hl
  obtain ⟨hx, hb, hml, hown, hts, hr, hlk, hK, hok, hst⟩ := id C
  have t : ∀ w ∈ q_tb, w.before args s = true := fun w h => hts w (List.mem_cons_of_mem _ h)
  exact va_mmin hx hb (hml.trans hl.1.symm) hown (t _ hV.1) (t _ hV.2.1) (t _ hV.2.2.1) (t _ hV.2.2.2) (R := q_R d) hdd (by rw [q_cats]; show _ + 13 ≤ 100 * d; omega) (Nat.zero_le _) (Nat.zero_le _) hd (k r w' ho p e s m args below meth c C H locs ls hP hS hl)
theorem q_mmax {x y : Int32} (hd : q_d M pc 3 (.invokestatic idx) nx) (hV : q_CM M.1 idx Lib.Math.max.name Lib.Math.max.code 2) (hw : (st.map fun v => v.category).sum ≤ 8) (hdd : 1 ≤ d) (k : q_J X S l M d tv nx lv (.int (q_imax x y) :: st) w o) : q_J X S l M d tv pc lv (.int y :: .int x :: st) w o := by
  obtain ⟨hd, rfl⟩ := hd
  intro r w' ho p e s m args below meth c C H locs ls hP hS hl
  obtain ⟨hx, hb, hml, hown, hts, hr, hlk, hK, hok, hst⟩ := id C
  have t : ∀ w ∈ q_tb, w.before args s = true := fun w h => hts w (List.mem_cons_of_mem _ h)
  exact va_mmax hx hb (hml.trans hl.1.symm) hown (t _ hV.1) (t _ hV.2.1) (t _ hV.2.2.1) (t _ hV.2.2.2) (R := q_R d) hdd (by rw [q_cats]; show _ + 13 ≤ 100 * d; omega) (Nat.zero_le _) (Nat.zero_le _) hd (k r w' ho p e s m args below meth c C H locs ls hP hS hl)
theorem q_mabs {x : Int32} (hd : q_d M pc 3 (.invokestatic idx) nx) (hV : q_CM M.1 idx Lib.Math.abs.name Lib.Math.abs.code 1) (hw : (st.map fun v => v.category).sum ≤ 8) (hdd : 1 ≤ d) (k : q_J X S l M d tv nx lv (.int (q_iabs x) :: st) w o) : q_J X S l M d tv pc lv (.int x :: st) w o := by
  obtain ⟨hd, rfl⟩ := hd
  intro r w' ho p e s m args below meth c C H locs ls hP hS hl
  obtain ⟨hx, hb, hml, hown, hts, hr, hlk, hK, hok, hst⟩ := id C
  have t : ∀ w ∈ q_tb, w.before args s = true := fun w h => hts w (List.mem_cons_of_mem _ h)
  exact va_mabs hx hb (hml.trans hl.1.symm) hown (t _ hV.1) (t _ hV.2.1) (t _ hV.2.2.1) (t _ hV.2.2.2) (R := q_R d) hdd (by rw [q_cats]; show _ + 13 ≤ 100 * d; omega) (Nat.zero_le _) (Nat.zero_le _) hd (k r w' ho p e s m args below meth c C H locs ls hP hS hl)
end QM
section QX
variable {X : q_X} {S : q_S} {l : Launch} {M : q_M} {d : Nat} {ρ : Type} {tv : ρ → Option Value} {pc nx : Nat} {lv : List (Nat × Value)} {st : List Value} {w : q_W} {o o1 o2 : Option (ρ × q_W)}
theorem q_getG {q k ci idx v : Nat} (hd : q_d M pc 3 (.getfield idx) nx) (hf : q_FL M.1 idx ci k) (hq : S.2.1 q = ci) (hk : q_rf ci k = 1) (hv : S.2.2.2 q k = v) (kk : q_J X S l M d tv nx lv (.ref v :: st) w o) : q_J X S l M d tv pc lv (.ref q :: st) w o := by
  subst hv; exact q_getF hd hf hq hk kk
theorem q_ite {P : Prop} [Decidable P] (k1 : P → q_J X S l M d tv pc lv st w o1) (k2 : ¬ P → q_J X S l M d tv pc lv st w o2) : q_J X S l M d tv pc lv st w (if P then o1 else o2) := by
  by_cases h : P
  · rw [if_pos h]; exact k1 h
  · rw [if_neg h]; exact k2 h
theorem q_ltE {a : Int32} {f : Int32 → Option (ρ × q_W)} (k : ∀ y, a = y → q_J X S l M d tv pc lv st w (f y)) : q_J X S l M d tv pc lv st w (q_lt a f) := k a rfl
end QX
theorem q_off1 {x k : Int32} {a o d : Int} {r : List (Int × Int)} {z : Int} (h : ¬ x = k) (hk : k.toInt = a) (hz : Op.lookupswitch.offset r d x.toInt = z) : Op.lookupswitch.offset ((a, o) :: r) d x.toInt = z := (lv_osw h hk).trans hz
theorem q_off0 {x : Int32} {d : Int} : Op.lookupswitch.offset [] d x.toInt = d := rfl
theorem q_ltI1 {X : q_X} {S : q_S} {l : Launch} {M : q_M} {d : Nat} {ρ : Type} {tv : ρ → Option Value} {pc : Nat} {lv : List (Nat × Value)} {v : Value} {st : List Value} {w : q_W} {a : Int32} {f : Int32 → Option (ρ × q_W)} (k : ∀ y, q_J X S l M d tv pc lv (v :: .int y :: st) w (f y)) : q_J X S l M d tv pc lv (v :: .int a :: st) w (q_lt a f) := k a
theorem q_tabD {X : q_X} {S : q_S} {l : Launch} {M : q_M} {d : Nat} {ρ : Type} {tv : ρ → Option Value} {pc nx : Nat} {lv : List (Nat × Value)} {st : List Value} {w : q_W} {o : Option (ρ × q_W)} {dflt lo hi : Int} {offs : Array Int} {len : Nat} {x : Int32} {tgt : Nat} (hd : q_d M pc len (.tableswitch dflt lo hi offs) nx) (hg : ¬ x.toInt < lo → ¬ hi < x.toInt → offs[(x.toInt - lo).toNat]? = some dflt) (ht : (pc : Int) + dflt = (tgt : Int)) (k : q_J X S l M d tv tgt lv st w o) : q_J X S l M d tv pc lv (.int x :: st) w o := by
  by_cases h1 : x.toInt < lo
  · exact q_tabOut hd (Or.inl h1) ht k
  · by_cases h2 : hi < x.toInt
    · exact q_tabOut hd (Or.inr h2) ht k
    · exact q_tabIn hd h1 h2 (hg h1 h2) ht k
