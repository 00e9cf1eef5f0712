/-! ===== whole, out of the agreement of the two functions (printed by program) ===== -/
theorem lc_7 : Cond.classLink R_law 7 RX10 ∈ lw_tbl := lt_1 _ (List.mem_of_getElem? (i := 19) rfl)
theorem lc_10 : Cond.classLink R_law 10 RX11 ∈ lw_tbl := lt_6 _ (List.mem_of_getElem? (i := 72) rfl)
theorem lj_10 : Cond.initialized RX10 ∈ lw_tbl := lt_1 _ (List.mem_of_getElem? (i := 1) rfl)
theorem lj_11 : Cond.initialized RX11 ∈ lw_tbl := lt_1 _ (List.mem_of_getElem? (i := 17) rfl)
theorem tb_144 : Cond.methodLink R_law 9 mX10_init.2.1 ∈ q_tb := ch_1 _ (List.mem_of_getElem? (i := 21) rfl) rfl
theorem tb_145 : Cond.instanceMethod mX10_init.2.1 ∈ q_tb := ch_1 _ (List.mem_of_getElem? (i := 22) rfl) rfl
theorem tb_146 : Cond.code mX10_init.2.1 mX10_init.2.2.1 mX10_init.2.2.2.1 mX10_init.2.2.2.2 ∈ q_tb := ch_1 _ (List.mem_of_getElem? (i := 23) rfl) rfl
theorem ciL_9 : q_CI R_law 9 mX10_init 0 := ⟨Or.inl tb_144, rfl, rfl, tb_145, tb_124, tb_146, ⟨by decide +kernel, by decide +kernel, by decide +kernel⟩, by decide⟩
set_option maxHeartbeats 4000000 in
set_option maxRecDepth 100000 in
theorem fsL_10 : ∀ j, j < 15 → defaultValue (tyX10 j) = vp_V [.null, .null, .null, .null, .null, .null, .null, .null, .null, .null, .null, .null, .int 0, .int 0, .int 0] j := by
  intro j hj
  rcases (show j = 0 ∨ j = 1 ∨ j = 2 ∨ j = 3 ∨ j = 4 ∨ j = 5 ∨ j = 6 ∨ j = 7 ∨ j = 8 ∨ j = 9 ∨ j = 10 ∨ j = 11 ∨ j = 12 ∨ j = 13 ∨ j = 14 by omega) with rfl | rfl | rfl | rfl | rfl | rfl | rfl | rfl | rfl | rfl | rfl | rfl | rfl | rfl | rfl <;> rfl
theorem tb_1397 : Cond.methodLink R_law 12 mX11_init.2.1 ∈ q_tb := ch_6 _ (List.mem_of_getElem? (i := 74) rfl) rfl
theorem tb_1398 : Cond.instanceMethod mX11_init.2.1 ∈ q_tb := ch_6 _ (List.mem_of_getElem? (i := 75) rfl) rfl
theorem tb_1399 : Cond.code mX11_init.2.1 mX11_init.2.2.1 mX11_init.2.2.2.1 mX11_init.2.2.2.2 ∈ q_tb := ch_6 _ (List.mem_of_getElem? (i := 76) rfl) rfl
theorem ciL_12 : q_CI R_law 12 mX11_init 0 := ⟨Or.inl tb_1397, rfl, rfl, tb_1398, tb_140, tb_1399, ⟨by decide +kernel, by decide +kernel, by decide +kernel⟩, by decide⟩
set_option maxHeartbeats 4000000 in
set_option maxRecDepth 100000 in
theorem fsL_11 : ∀ j, j < 73 → defaultValue (tyX11 j) = vp_V [.int 0, .null, .int 0, .null, .int 0, .null, .null, .null, .null, .null, .int 0, .int 0, .int 0, .int 0, .int 0, .int 0, .int 0, .int 0, .int 0, .int 0, .null, .null, .null, .null, .int 0, .null, .null, .null, .int 0, .null, .int 0, .null, .null, .null, .null, .int 0, .int 0, .null, .int 0, .int 0, .int 0, .int 0, .null, .null, .int 0, .null, .null, .null, .int 0, .null, .int 0, .null, .null, .int 0, .int 0, .int 0, .int 0, .null, .null, .null, .int 0, .int 0, .int 0, .null, .int 0, .int 0, .null, .null, .int 0, .int 0, .int 0, .null, .null] j := by
  intro j hj
  rcases (show j = 0 ∨ j = 1 ∨ j = 2 ∨ j = 3 ∨ j = 4 ∨ j = 5 ∨ j = 6 ∨ j = 7 ∨ j = 8 ∨ j = 9 ∨ j = 10 ∨ j = 11 ∨ j = 12 ∨ j = 13 ∨ j = 14 ∨ j = 15 ∨ j = 16 ∨ j = 17 ∨ j = 18 ∨ j = 19 ∨ j = 20 ∨ j = 21 ∨ j = 22 ∨ j = 23 ∨ j = 24 ∨ j = 25 ∨ j = 26 ∨ j = 27 ∨ j = 28 ∨ j = 29 ∨ j = 30 ∨ j = 31 ∨ j = 32 ∨ j = 33 ∨ j = 34 ∨ j = 35 ∨ j = 36 ∨ j = 37 ∨ j = 38 ∨ j = 39 ∨ j = 40 ∨ j = 41 ∨ j = 42 ∨ j = 43 ∨ j = 44 ∨ j = 45 ∨ j = 46 ∨ j = 47 ∨ j = 48 ∨ j = 49 ∨ j = 50 ∨ j = 51 ∨ j = 52 ∨ j = 53 ∨ j = 54 ∨ j = 55 ∨ j = 56 ∨ j = 57 ∨ j = 58 ∨ j = 59 ∨ j = 60 ∨ j = 61 ∨ j = 62 ∨ j = 63 ∨ j = 64 ∨ j = 65 ∨ j = 66 ∨ j = 67 ∨ j = 68 ∨ j = 69 ∨ j = 70 ∨ j = 71 ∨ j = 72 by omega) with rfl | rfl | rfl | rfl | rfl | rfl | rfl | rfl | rfl | rfl | rfl | rfl | rfl | rfl | rfl | rfl | rfl | rfl | rfl | rfl | rfl | rfl | rfl | rfl | rfl | rfl | rfl | rfl | rfl | rfl | rfl | rfl | rfl | rfl | rfl | rfl | rfl | rfl | rfl | rfl | rfl | rfl | rfl | rfl | rfl | rfl | rfl | rfl | rfl | rfl | rfl | rfl | rfl | rfl | rfl | rfl | rfl | rfl | rfl | rfl | rfl | rfl | rfl | rfl | rfl | rfl | rfl | rfl | rfl | rfl | rfl | rfl | rfl <;> rfl
theorem q_st_cg {X : q_X} {A : Nat → Prop} {s : State} {f : Nat → Nat} (h : q_st X A s) (hf : ∀ k, 1000 ≤ k → f k = X.2.2 k) : q_st (X.1, X.2.1, f) A s := by
  obtain ⟨g0, g3, g4, g5, g6⟩ := h
  have e1 : (fun i => f (1100 + i)) = fun i => X.2.2 (1100 + i) := funext fun i => hf _ (by omega)
  have e2 : (fun i => f (1110 + i)) = fun i => X.2.2 (1110 + i) := funext fun i => hf _ (by omega)
  refine ⟨fun j hj => ?_, ?_, fun i hi => ?_, g5, ?_⟩
  · obtain ⟨g1, g2⟩ := g0 j hj
    show va_Z _ _ _ (.ref (f (1000 + j))) _ _ _ ∧ va_T _ (f (1000 + j)) _ _ _ _ _
    rw [hf _ (by omega)]
    exact ⟨g1, g2⟩
  · show vk_S _ _ _ (fun i => f (1100 + i)) (fun i => f (1110 + i)) _ _ _
    rw [e1, e2]
    exact g3
  · show vk_R _ _ _ (f (1100 + i)) _
    rw [hf _ (by omega)]
    exact g4 i hi
  · show _ ∨ va_Z _ _ _ (.ref (f 1120)) _ _ _
    rw [hf _ (by omega)]
    exact g6
theorem q_LctorG {l : Launch} {X : q_X} {b L : Nat} {xs : Nat → Int32} {M' : q_M} {d' mc ms h1 ci : Nat} {f1 : List Value} {post : va_W → Prop} {pc idx cs ss : Nat} {st : List Value} {p : Program} {e : Env} {s : State} {m : MethodId} {below : List Frame} {meth : Method} {c : Code} {H : Heap} {locs : List Loc} {ls : Array Slot} {Q : State → Prop}
    (hd : decode code pc = .ok (.invokespecial idx, 3)) (hV : q_CI R_law idx M' 0) (hC : q_KC X l M' d' mc ms h1 [] ci f1 post) (hw : (st.map fun v => v.category).sum ≤ 8) (hdd : d' ≤ 800) (hAt : lw_At p s m meth c b L xs) (hK : va_K X.1 q_cl (q_tys X) s) (hst : q_st X (q_LA s) s) (hnw : ∀ w ∈ q_nest, va_Nw w s) (hP : va_P X.1 q_cl [(h1, .inr (ci, f1))] H) (hge : s.heap.size ≤ h1) (hS : va_S (q_LA s) s.heap H locs) (hl : ls.size = 4) (hc : cs + mc ≤ 600000) (hs : ss + ms ≤ 7302250)
    (kk : ∀ (H1 : Heap) (locs1 : List Loc) (ws : va_W), post ws → va_P X.1 q_cl ws H1 → va_D (q_KA h1 H.size) ws → H.size ≤ H1.size → (∀ q : Nat, q < H.size → q ≠ h1 → H1[q]? = H[q]?) → va_S (q_LA s) s.heap H1 locs1 → W p l e room_1 s m #[Value.ref b] below meth c H1 locs1 (cs + mc) (ss + ms) Q (F0 m (pc + 3) ls st)) : W p l e room_1 s m #[Value.ref b] below meth c H locs cs ss Q (F0 m pc ls (.ref h1 :: st)) := by
  obtain ⟨hx, hb, hr, hml, hown, hts, hX, hbl, hlocks, hgv⟩ := hAt
  obtain ⟨v0, v1, v1b, v2, v3, v5, v6, v7⟩ := hV
  have hle : ∀ q, q_KA h1 H.size q → q_LA s q := by
    intro q h
    rcases h with rfl | h
    · exact hge
    · exact Nat.le_trans hS.1 h
  have hM := hC H.size
  have inL : ∀ w, w ∈ q_tb → w ∈ lw_tbl := fun w h => (List.mem_filter.mp h).1
  have hG : GoodIn lw_tbl (q_wm M') := fun w hw => ⟨inL w (q_goodM (M := M') v5 w hw), good_of_word (q_tb_good w (q_goodM (M := M') v5 w hw))⟩
  have hpre : FrameBlind (va_Pc (.ref h1 :: []) (fun U => U.heap.size = H.size ∧ va_P X.1 q_cl [(h1, .inr (ci, f1))] U.heap ∧ q_KP X h1 H.size U)) := by
    intro a U g mk q
    obtain ⟨z0, z1, z2, z3, z4, z5⟩ := q
    exact ⟨z0, z1, z2, va_K.moved (u := U) (U := U.calling g mk a) (Vm.Alike.refl U.vm) z3, q_st_mv (s := U) (U := U.calling g mk a) z4 rfl rfl, q_nest_same (s := U) (U := U.calling g mk a) rfl z5⟩
  have hstU : ∀ U : State, U.heap = H → s.WarmedH U.vm → q_st X (q_KA h1 H.size) U := by
    intro U hU hW
    subst hU
    have hvm := hW.alike
    obtain ⟨g0, g3, g4, g5, g6⟩ := hst
    refine ⟨fun j hj => ?_, ((g3.kept hS.2.1).moved hvm).narrow hle, fun i hi => vk_R.warm hW (g4 i hi), ((g5.kept hS.2.1).moved hvm).narrow hle, g6.imp (fun z => ((z.kept hS.2.1).moved hvm).narrow hle) (fun z => ((z.kept hS.2.1).moved hvm).narrow hle)⟩
    obtain ⟨g1, g2⟩ := g0 j hj
    exact ⟨((g1.kept hS.2.1).moved hvm).narrow hle, ((g2.kept hS.2.1).moved hvm).narrow hle⟩
  have hpS : PreS s H (va_Pc (.ref h1 :: []) (fun U => U.heap.size = H.size ∧ va_P X.1 q_cl [(h1, .inr (ci, f1))] U.heap ∧ q_KP X h1 H.size U)) (.ref h1 :: []) := ⟨hpre, fun U hU hW => ⟨rfl, by rw [hU], by rw [hU]; exact hP, va_K.moved hW.alike hK, hstU U hU hW, q_nest_warm hW hnw⟩⟩
  have hwm : q_wm M' = Cond.code M'.2.1 M'.2.2.1 M'.2.2.2.1 none :: q_tb := by unfold q_wm; rw [v1b]
  have hlink : (Cond.methodLink R_law idx M'.2.1).before #[Value.ref b] s = true := by
    rcases v0 with v0 | v0
    · exact hts _ (inL _ v0)
    · exfalso
      simp only [q_nest, List.mem_cons, List.not_mem_nil, or_false, Cond.methodLinkNest.injEq] at v0
      rcases v0 with ⟨z, -⟩ | ⟨z, -⟩ | ⟨z, -⟩ | ⟨z, -⟩ | ⟨z, -⟩ <;> exact absurd z (by decide +kernel)
  have run : va_Run p l e room_1 s m #[Value.ref b] below meth c H locs cs ss mc ms (F0 m pc ls (.ref h1 :: st)) st (q_KQ X (q_KA h1 H.size) post (Value.ref h1 :: []).toArray) (q_KA h1 H.size) := va_runI (As := []) (rest := st) ⟨hx, hb, hml, hown, hts⟩ hM (cwI 0 hts hG hwm rfl rfl (hts _ (inL _ v3)) hlink (hts _ (inL _ v2)) v1 v6 ⟨by show d' + 1 ≤ 2048; omega, by show 8 + (M'.2.2.2.1 + 11) + 100 * d' ≤ 84000; omega⟩) hpS rfl rfl hl rfl (lv_room hw) hd ⟨hc, hs⟩
  intro T hT X0
  obtain ⟨v', st₀, t, T', L', h0', X', hL, e1, e2, ⟨⟨hv, ws, hp, hPw, hDw⟩, hz, hk⟩, stp⟩ := run T hT X0
  cases hv
  rw [h0'] at hz hk
  obtain ⟨t2, a1, b1⟩ := kk T'.heap (locs ++ L') ws hp (by rw [e1]; exact hPw) hDw (by rw [e1]; exact hz) (fun q g1 g2 => by
      rw [e1]
      refine hk q g1 (fun z => ?_)
      rcases z with z | z
      · exact g2 z
      · omega)
    ⟨Nat.le_trans hS.1 (by rw [e1]; exact hz), fun q g1 g2 => by rw [e1, hk q (Nat.lt_of_lt_of_le g1 hS.1) (fun z => g2 (hle q z))]; exact hS.2.1 q g1 g2, fun q hq => by
      rcases List.mem_append.mp hq with h | h
      · exact hS.2.2 q h
      · exact hle _ (hL q h)⟩ T' rfl X'
  exact ⟨t2, stp t2 a1, b1⟩
set_option maxHeartbeats 4000000 in
set_option maxRecDepth 100000 in
theorem q_whole (I : q_W → q_W → Prop) (hI : I wC0 wR0) (hsim : q_Sim I) {p : Program} {e : Env} {s : State} {m : MethodId} {below : List Frame} {meth : Method} {c : Code} (l : Launch) {b L : Nat} {xs : Nat → Int32} (hL : L ≤ 3584) (C0 : lw_At p s m meth c b L xs) : W p l e room_1 s m #[Value.ref b] below meth c s.heap [] 0 0 (lw_Z below #[Value.ref b] s) (entryFrame m ([Value.ref b] : List Value).toArray 4) := by
  obtain ⟨hx, hb, hr, hml, hown, hts, hX, hbl, hlocks, hgv⟩ := id C0
  obtain ⟨D, tc, f, hK, hst, hnw⟩ := q_start hts hgv
  have inL : ∀ w, w ∈ q_tb → w ∈ lw_tbl := fun w h => (List.mem_filter.mp h).1
  have hA : ∀ q, s.heap.size ≤ q → q_LA s q := fun q h => h
  have hS : va_S (q_LA s) s.heap s.heap [] := va_S.rf
  have hP : va_P D q_cl [] s.heap := fun k q h => by simp at h
  have hD : va_D (q_LA s) [] := ⟨fun i j p q h => by simp at h, fun k q h => by simp at h⟩
  have hl := lv_entry ([.ref b]) (n := 4) (Nat.le_of_ble_eq_true rfl)
  rw [lg_entry_eq]
  generalize (lg_sl ([.ref b]) ++ List.replicate (4 - (lg_sl ([.ref b])).length) Slot.unset).toArray = ls at hl ⊢
  have hl : lv_has ls 4 [(0, .ref b)] := hl
  refine va_new (ci := 10) (fs := [.null, .null, .null, .null, .null, .null, .null, .null, .null, .null, .null, .null, .int 0, .int 0, .int 0]) (C := RX10) (T := TX10) (N := 15) hx hb hts (fun w h => inL w (uX10 w h)) tyX10 tyX10_ok hown (hts _ lc_7) (hts _ in_10) (hts _ lj_10) hK hP hD hS hA rfl fsL_10 (Nat.le_of_ble_eq_true rfl) (Nat.le_of_ble_eq_true rfl) eL_0.1 (fun h1 H1 hP1 hD1 hS1 => ?_)
  refine lv_dup hx hb eL_3.1 rfl ?_
  have hP1 : va_P D q_cl [(h1, .inr (10, [.null, .null, .null, .null, .null, .null, .null, .null, .null, .null, .null, .null, .int 0, .int 0, .int 0]))] H1 := hP1
  have hge1 : s.heap.size ≤ h1 := hD1.2 0 (h1, _) rfl
  refine q_LctorG (X := (D, tc, f)) (st := [.ref h1]) eL_4.1 ciL_9 (nX10_init (D, tc, f) l h1) (Nat.le_of_ble_eq_true rfl) (by decide) C0 hK hst hnw hP1 hge1 hS1 hl.1 (Nat.le_of_ble_eq_true rfl) (Nat.le_of_ble_eq_true rfl) (fun H2 locs2 ws hw hP2 hD2 hz2 hk2 hS2 => ?_)
  obtain ⟨q1, q2, q3, q4, q5, q6, q7, q8, q9, q10, q11, q12, q13, q14, q15, q16, q17, q18, q19, q20, q21, q22, q23, q24, q25, q26, q27, q28, q29, q30, q31, q32, q33, q34, q35, q36, q37, q38, q39, q40, q41, q42, q43, q44, q45, q46, q47, q48, q49, q50, rfl⟩ := hw
  have hD2' : va_D (q_LA s) (wwX10_init (D, tc, f) h1 q1 q2 q3 q4 q5 q6 q7 q8 q9 q10 q11 q12 q13 q14 q15 q16 q17 q18 q19 q20 q21 q22 q23 q24 q25 q26 q27 q28 q29 q30 q31 q32 q33 q34 q35 q36 q37 q38 q39 q40 q41 q42 q43 q44 q45 q46 q47 q48 q49 q50) := hD2.weaken (fun k q _ z => by
    rcases z with z | z
    · rw [z]; exact hge1
    · exact Nat.le_trans hS1.1 z)
  refine lv_astore_n (lv' := [(1, .ref h1), (0, .ref b)]) hx hb eL_7.1 rfl hl (by decide) rfl (fun ls hl => ?_)
  refine va_new (ci := 11) (fs := [.int 0, .null, .int 0, .null, .int 0, .null, .null, .null, .null, .null, .int 0, .int 0, .int 0, .int 0, .int 0, .int 0, .int 0, .int 0, .int 0, .int 0, .null, .null, .null, .null, .int 0, .null, .null, .null, .int 0, .null, .int 0, .null, .null, .null, .null, .int 0, .int 0, .null, .int 0, .int 0, .int 0, .int 0, .null, .null, .int 0, .null, .null, .null, .int 0, .null, .int 0, .null, .null, .int 0, .int 0, .int 0, .int 0, .null, .null, .null, .int 0, .int 0, .int 0, .null, .int 0, .int 0, .null, .null, .int 0, .int 0, .int 0, .null, .null]) (C := RX11) (T := TX11) (N := 73) hx hb hts (fun w h => inL w (uX11 w h)) tyX11 tyX11_ok hown (hts _ lc_10) (hts _ in_11) (hts _ lj_11) hK hP2 hD2' hS2 hA rfl fsL_11 (Nat.le_of_ble_eq_true rfl) (Nat.le_of_ble_eq_true rfl) eL_8.1 (fun h2 H3 hP3 hD3 hS3 => ?_)
  refine lv_dup hx hb eL_11.1 rfl ?_
  have hPm : va_P D q_cl (wwX10_init (D, tc, f) h1 q1 q2 q3 q4 q5 q6 q7 q8 q9 q10 q11 q12 q13 q14 q15 q16 q17 q18 q19 q20 q21 q22 q23 q24 q25 q26 q27 q28 q29 q30 q31 q32 q33 q34 q35 q36 q37 q38 q39 q40 q41 q42 q43 q44 q45 q46 q47 q48 q49 q50) H3 := fun k q hk => hP3 k q (by rw [List.getElem?_append_left (List.getElem?_eq_some_iff.mp hk).1]; exact hk)
  have hat : (wwX10_init (D, tc, f) h1 q1 q2 q3 q4 q5 q6 q7 q8 q9 q10 q11 q12 q13 q14 q15 q16 q17 q18 q19 q20 q21 q22 q23 q24 q25 q26 q27 q28 q29 q30 q31 q32 q33 q34 q35 q36 q37 q38 q39 q40 q41 q42 q43 q44 q45 q46 q47 q48 q49 q50 ++ [(h2, .inr (11, [.int 0, .null, .int 0, .null, .int 0, .null, .null, .null, .null, .null, .int 0, .int 0, .int 0, .int 0, .int 0, .int 0, .int 0, .int 0, .int 0, .int 0, .null, .null, .null, .null, .int 0, .null, .null, .null, .int 0, .null, .int 0, .null, .null, .null, .null, .int 0, .int 0, .null, .int 0, .int 0, .int 0, .int 0, .null, .null, .int 0, .null, .null, .null, .int 0, .null, .int 0, .null, .null, .int 0, .int 0, .int 0, .int 0, .null, .null, .null, .int 0, .int 0, .int 0, .null, .int 0, .int 0, .null, .null, .int 0, .int 0, .int 0, .null, .null]))])[51]? = some (h2, .inr (11, [.int 0, .null, .int 0, .null, .int 0, .null, .null, .null, .null, .null, .int 0, .int 0, .int 0, .int 0, .int 0, .int 0, .int 0, .int 0, .int 0, .int 0, .null, .null, .null, .null, .int 0, .null, .null, .null, .int 0, .null, .int 0, .null, .null, .null, .null, .int 0, .int 0, .null, .int 0, .int 0, .int 0, .int 0, .null, .null, .int 0, .null, .null, .null, .int 0, .null, .int 0, .null, .null, .int 0, .int 0, .int 0, .int 0, .null, .null, .null, .int 0, .int 0, .int 0, .null, .int 0, .int 0, .null, .null, .int 0, .int 0, .int 0, .null, .null])) := rfl
  have hPn : va_P D q_cl [(h2, .inr (11, [.int 0, .null, .int 0, .null, .int 0, .null, .null, .null, .null, .null, .int 0, .int 0, .int 0, .int 0, .int 0, .int 0, .int 0, .int 0, .int 0, .int 0, .null, .null, .null, .null, .int 0, .null, .null, .null, .int 0, .null, .int 0, .null, .null, .null, .null, .int 0, .int 0, .null, .int 0, .int 0, .int 0, .int 0, .null, .null, .int 0, .null, .null, .null, .int 0, .null, .int 0, .null, .null, .int 0, .int 0, .int 0, .int 0, .null, .null, .null, .int 0, .int 0, .int 0, .null, .int 0, .int 0, .null, .null, .int 0, .int 0, .int 0, .null, .null]))] H3 := fun k q hk => by
    have h9 := (List.getElem?_eq_some_iff.mp hk).1
    simp at h9
    subst h9
    cases hk
    exact hP3 51 _ hat
  have hge2 : s.heap.size ≤ h2 := hD3.2 51 (h2, _) hat
  have hDm : va_D (fun a => s.heap.size ≤ a ∧ a < H3.size ∧ a ≠ h2) (wwX10_init (D, tc, f) h1 q1 q2 q3 q4 q5 q6 q7 q8 q9 q10 q11 q12 q13 q14 q15 q16 q17 q18 q19 q20 q21 q22 q23 q24 q25 q26 q27 q28 q29 q30 q31 q32 q33 q34 q35 q36 q37 q38 q39 q40 q41 q42 q43 q44 q45 q46 q47 q48 q49 q50) := ⟨hD2'.1, fun k q hk => ⟨hD2'.2 k q hk, (hPm k q hk).lt, fun z => by
    have h8 := (List.getElem?_eq_some_iff.mp hk).1
    have h9 := hD3.1 k 51 q _ (by rw [List.getElem?_append_left h8]; exact hk) hat z
    subst h9
    exact absurd h8 (by show ¬ 51 < 51; omega)⟩⟩
  refine q_LctorG (X := (D, tc, f)) (st := [.ref h2]) eL_12.1 ciL_12 (nX11_init (D, tc, f) l h2) (Nat.le_of_ble_eq_true rfl) (by decide) C0 hK hst hnw hPn hge2 hS3 hl.1 (Nat.le_of_ble_eq_true rfl) (Nat.le_of_ble_eq_true rfl) (fun H4 locs4 ws hw hP4 hD4 hz4 hk4 hS4 => ?_)
  have hPm4 : va_P D q_cl (wwX10_init (D, tc, f) h1 q1 q2 q3 q4 q5 q6 q7 q8 q9 q10 q11 q12 q13 q14 q15 q16 q17 q18 q19 q20 q21 q22 q23 q24 q25 q26 q27 q28 q29 q30 q31 q32 q33 q34 q35 q36 q37 q38 q39 q40 q41 q42 q43 q44 q45 q46 q47 q48 q49 q50) H4 := hPm.kept (fun k q hk => hk4 q.1 (hDm.2 k q hk).2.1 (hDm.2 k q hk).2.2)
  obtain ⟨fC, eC, gC, pC', okC, aC⟩ := madeC (D, tc, f) h1 q1 q2 q3 q4 q5 q6 q7 q8 q9 q10 q11 q12 q13 q14 q15 q16 q17 q18 q19 q20 q21 q22 q23 q24 q25 q26 q27 q28 q29 q30 q31 q32 q33 q34 q35 q36 q37 q38 q39 q40 q41 q42 q43 q44 q45 q46 q47 q48 q49 q50 H4 _ hPm4 hDm
  clear hPm hPm4 hP3 hD3 hat hDm hD2 hD2' hP2
  obtain ⟨q1, q2, q3, q4, q5, q6, q7, q8, q9, q10, q11, q12, q13, q14, q15, q16, q17, q18, q19, q20, q21, q22, q23, q24, q25, q26, q27, q28, q29, q30, q31, q32, q33, q34, q35, q36, rfl⟩ := hw
  obtain ⟨fR, eR, gR, pR', okR, aR⟩ := madeR (D, tc, f) h2 q1 q2 q3 q4 q5 q6 q7 q8 q9 q10 q11 q12 q13 q14 q15 q16 q17 q18 q19 q20 q21 q22 q23 q24 q25 q26 q27 q28 q29 q30 q31 q32 q33 q34 q35 q36 H4 _ hP4 hD4
  refine lv_astore_n (lv' := [(2, .ref h2), (1, .ref h1), (0, .ref b)]) hx hb eL_15.1 rfl hl (by decide) rfl (fun ls hl => ?_)
  refine lv_iconst (v := 0) hx hb eL_16.1 (by decide) ?_
  refine lv_istore_n (lv' := [(3, .int 0), (2, .ref h2), (1, .ref h1), (0, .ref b)]) hx hb eL_17.1 rfl hl (by decide) rfl (fun ls hl => ?_)
  refine W.widen (k := 600000) (n := 7302250) (Nat.le_of_ble_eq_true rfl) (Nat.le_of_ble_eq_true rfl) ?_
  have hl9 : lv_has ls 4 [(3, .int (nI 0)), (0, .ref b), (1, .ref (fC 0)), (2, .ref (fR 0))] := by rw [eC, eR]; exact lv_sub hl [0, 3, 2, 1] rfl
  exact law_loop l (D, tc, fC) (D, tc, fR) b L xs hL I hsim (L + 8) 0 wC0 wR0 (by omega) (by omega) hI p e s m below meth c
    ⟨C0, rfl, rfl, hK, okC, okR, q_st_cg hst gC, q_st_cg hst gR, fun k hk => (aC k hk).1, fun k hk => by
      rcases aR k hk with z | z
      · show s.heap.size ≤ fR k; rw [z]; exact hge2
      · exact Nat.le_trans hS3.1 z, fun i j hi hj z => by
      have z1 := aC i hi
      have z2 := aR j hj
      have z3 : fC i = fR j := z
      rcases z2 with z2 | z2
      · exact z1.2.2 (z3.trans z2)
      · exact absurd z1.2.1 (by rw [z3]; exact Nat.not_lt.mpr z2)⟩ H4 locs4 ls pC' pR' hS4 hl9
