/-! what holds at the law's start (printed by program) -/
theorem lt_1 : ∀ w ∈ tables_1_1, w ∈ lw_tbl := fun w h => List.mem_append_right _ (by unfold tables_1; simp only [List.mem_append]; simp only [h, true_or, or_true])
theorem lt_2 : ∀ w ∈ tables_1_2, w ∈ lw_tbl := fun w h => List.mem_append_right _ (by unfold tables_1; simp only [List.mem_append]; simp only [h, true_or, or_true])
theorem lt_3 : ∀ w ∈ tables_1_3, w ∈ lw_tbl := fun w h => List.mem_append_right _ (by unfold tables_1; simp only [List.mem_append]; simp only [h, true_or, or_true])
theorem lt_4 : ∀ w ∈ tables_1_4, w ∈ lw_tbl := fun w h => List.mem_append_right _ (by unfold tables_1; simp only [List.mem_append]; simp only [h, true_or, or_true])
theorem lt_5 : ∀ w ∈ tables_1_5, w ∈ lw_tbl := fun w h => List.mem_append_right _ (by unfold tables_1; simp only [List.mem_append]; simp only [h, true_or, or_true])
theorem lt_6 : ∀ w ∈ tables_1_6, w ∈ lw_tbl := fun w h => List.mem_append_right _ (by unfold tables_1; simp only [List.mem_append]; simp only [h, true_or, or_true])
theorem lt_7 : ∀ w ∈ tables_1_7, w ∈ lw_tbl := fun w h => List.mem_append_right _ (by unfold tables_1; simp only [List.mem_append]; simp only [h, true_or, or_true])
theorem lt_8 : ∀ w ∈ tables_1_8, w ∈ lw_tbl := fun w h => List.mem_append_right _ (by unfold tables_1; simp only [List.mem_append]; simp only [h, true_or, or_true])
theorem in_0 : Cond.instantiable RX0 6 ∈ lw_tbl := lt_1 _ (List.mem_of_getElem? (i := 95) rfl)
theorem in_1 : Cond.instantiable RX1 14 ∈ lw_tbl := lt_2 _ (List.mem_of_getElem? (i := 54) rfl)
theorem in_2 : Cond.instantiable RX2 3 ∈ lw_tbl := lt_1 _ (List.mem_of_getElem? (i := 42) rfl)
theorem in_3 : Cond.instantiable RX3 12 ∈ lw_tbl := lt_2 _ (List.mem_of_getElem? (i := 103) rfl)
theorem in_4 : Cond.instantiable RX4 5 ∈ lw_tbl := lt_1 _ (List.mem_of_getElem? (i := 154) rfl)
theorem in_5 : Cond.instantiable RX5 12 ∈ lw_tbl := lt_1 _ (List.mem_of_getElem? (i := 176) rfl)
theorem in_6 : Cond.instantiable RX6 4 ∈ lw_tbl := lt_1 _ (List.mem_of_getElem? (i := 48) rfl)
theorem in_7 : Cond.instantiable RX7 6 ∈ lw_tbl := lt_1 _ (List.mem_of_getElem? (i := 182) rfl)
theorem in_8 : Cond.instantiable RX8 9 ∈ lw_tbl := lt_1 _ (List.mem_of_getElem? (i := 120) rfl)
theorem in_9 : Cond.instantiable RX9 2 ∈ lw_tbl := lt_1 _ (List.mem_of_getElem? (i := 28) rfl)
theorem in_10 : Cond.instantiable RX10 15 ∈ lw_tbl := lt_1 _ (List.mem_of_getElem? (i := 20) rfl)
theorem in_11 : Cond.instantiable RX11 73 ∈ lw_tbl := lt_6 _ (List.mem_of_getElem? (i := 73) rfl)
theorem ls_0 : Cond.laysStatic "MarbleBath$Rows" "LENGTHS" "[I" ∈ lw_tbl := lt_3 _ (List.mem_of_getElem? (i := 230) rfl)
theorem ls_1 : Cond.laysStatic "MarbleBath$Rows" "LEAST" "[I" ∈ lw_tbl := lt_4 _ (List.mem_of_getElem? (i := 20) rfl)
theorem ls_2 : Cond.laysStatic "MarbleBath$Rows" "GREATEST" "[I" ∈ lw_tbl := lt_4 _ (List.mem_of_getElem? (i := 22) rfl)
theorem ls_3 : Cond.laysStatic "java/lang/String" "COMPACT_STRINGS" "Z" ∈ lw_tbl := lt_1 _ (List.mem_of_getElem? (i := 197) rfl)
theorem ls_4 : Cond.laysStatic "jdk/internal/util/Preconditions" "SIOOBE_FORMATTER" "Ljava/util/function/BiFunction;" ∈ lw_tbl := lt_1 _ (List.mem_of_getElem? (i := 213) rfl)
theorem li_0 : Cond.initialized "MarbleBath$Rows" ∈ lw_tbl := lt_1 _ (List.mem_of_getElem? (i := 4) rfl)
theorem li_1 : Cond.initialized "java/lang/String" ∈ lw_tbl := lt_1 _ (List.mem_of_getElem? (i := 11) rfl)
theorem li_2 : Cond.initialized "jdk/internal/util/Preconditions" ∈ lw_tbl := lt_1 _ (List.mem_of_getElem? (i := 13) rfl)
theorem lsr_0 : Cond.stringRef "MarbleBath$Scanner" 23 (q_stx 0) ∈ lw_tbl := lt_1 _ (List.mem_of_getElem? (i := 187) rfl)
theorem lsr_1 : Cond.stringRef "MarbleBath$Scanner" 85 (q_stx 1) ∈ lw_tbl := lt_3 _ (List.mem_of_getElem? (i := 34) rfl)
theorem ln_0 : Cond.methodLinkNest RX10 9 mX9_init.2.1 RX10 ∈ lw_tbl := lt_1 _ (List.mem_of_getElem? (i := 29) rfl)
theorem ln_1 : Cond.methodLinkNest RX2 11 mX6_init.2.1 RX10 ∈ lw_tbl := lt_1 _ (List.mem_of_getElem? (i := 49) rfl)
theorem ln_2 : Cond.methodLinkNest RX10 25 mX6_init.2.1 RX10 ∈ lw_tbl := lt_1 _ (List.mem_of_getElem? (i := 93) rfl)
theorem ln_3 : Cond.methodLinkNest RX10 41 mX8_init.2.1 RX10 ∈ lw_tbl := lt_1 _ (List.mem_of_getElem? (i := 121) rfl)
theorem ln_4 : Cond.methodLinkNest RX10 55 mX4_init.2.1 RX10 ∈ lw_tbl := lt_1 _ (List.mem_of_getElem? (i := 155) rfl)
theorem la_int : Cond.arrayClass .int ∈ lw_tbl := lt_1 _ (List.mem_of_getElem? (i := 66) rfl)
theorem la_byte : Cond.arrayClass .byte ∈ lw_tbl := lt_1 _ (List.mem_of_getElem? (i := 40) rfl)
theorem la_boolean : Cond.arrayClass .boolean ∈ lw_tbl := lt_1 _ (List.mem_of_getElem? (i := 91) rfl)
theorem la_long : Cond.arrayClass .long ∈ lw_tbl := lt_2 _ (List.mem_of_getElem? (i := 15) rfl)
theorem q_tcOf {s : State} {args : Array Value} {ty : FieldType} (h : (Cond.arrayClass ty).before args s = true) (hp : ∀ c, s.vm.findClass ("[" ++ ty.toString) = some c → va_RA s c ty) (hk : ∀ c k comp, s.vm.classes[c]? = some k → k.kind = .array comp ty → ArrOfT s c ty) : ∃ c : ClassId, ArrOfT s c ty ∧ va_RA s c ty := by
  obtain ⟨c, k, comp, h1, h2, h3⟩ := Cond.arrayClass_spec (args := args) (first := s) (o := none) (s := s) (idx := []) h
  exact ⟨c, hk c k comp h2 h3, hp c h1⟩
def q_tmS (i : Nat) : Term := .string "MarbleBath$Scanner" (q_six i)
def q_tmT (j : Nat) : Term := .static "MarbleBath$Rows" (q_sn j) "[I"
set_option maxHeartbeats 4000000 in
set_option maxRecDepth 100000 in
theorem q_start {s : State} {b : Nat} (hts : ∀ w ∈ lw_tbl, w.before #[Value.ref b] s = true) (hgv : (Jvm.Cond.and given_1 narrow_1).before #[Value.ref b] s = true) : ∃ (D : va_G) (tc : Nat → ClassId) (f : Nat → Nat), va_K D q_cl (q_tys (D, tc, f)) s ∧ q_st (D, tc, f) (fun q => s.heap.size ≤ q) s ∧ ∀ w ∈ q_nest, va_Nw w s := by
  have hq : ∀ w ∈ q_tb, w.before #[Value.ref b] s = true := fun w h => hts w (List.mem_filter.mp h).1
  have hs := flat_of_before _ hgv
  have hA : ∀ a : Nat, a < s.heap.size → ¬ (fun q => s.heap.size ≤ q) a := fun a h => Nat.not_le.mpr h
  obtain ⟨c0, i0, k0⟩ := u_known (C := RX0) (T := TX0) (N := 6) (n := 6) hq uX0 (hts _ in_0)
  obtain ⟨c1, i1, k1⟩ := u_known (C := RX1) (T := TX1) (N := 14) (n := 14) hq uX1 (hts _ in_1)
  obtain ⟨c2', i2, k2⟩ := u_known (C := RX2) (T := TX2) (N := 3) (n := 3) hq uX2 (hts _ in_2)
  obtain ⟨c3, i3, k3⟩ := u_known (C := RX3) (T := TX3) (N := 12) (n := 12) hq uX3 (hts _ in_3)
  obtain ⟨c4, i4, k4⟩ := u_known (C := RX4) (T := TX4) (N := 5) (n := 5) hq uX4 (hts _ in_4)
  obtain ⟨c5, i5, k5⟩ := u_known (C := RX5) (T := TX5) (N := 12) (n := 12) hq uX5 (hts _ in_5)
  obtain ⟨c6, i6, k6⟩ := u_known (C := RX6) (T := TX6) (N := 4) (n := 4) hq uX6 (hts _ in_6)
  obtain ⟨c7, i7, k7⟩ := u_known (C := RX7) (T := TX7) (N := 6) (n := 6) hq uX7 (hts _ in_7)
  obtain ⟨c8, i8, k8⟩ := u_known (C := RX8) (T := TX8) (N := 9) (n := 9) hq uX8 (hts _ in_8)
  obtain ⟨c9, i9, k9⟩ := u_known (C := RX9) (T := TX9) (N := 2) (n := 2) hq uX9 (hts _ in_9)
  obtain ⟨c10, i10, k10⟩ := u_known (C := RX10) (T := TX10) (N := 15) (n := 15) hq uX10 (hts _ in_10)
  obtain ⟨c11, i11, k11⟩ := u_known (C := RX11) (T := TX11) (N := 73) (n := 73) hq uX11 (hts _ in_11)
  obtain ⟨t0, t0a, t0b⟩ := q_tcOf (ty := .int) (hts _ la_int) (fun c h => h) (fun c k comp h2 h3 => fun n z => ⟨fun q h => (by cases h), k, h2, comp, h3⟩)
  obtain ⟨t1, t1a, t1b⟩ := q_tcOf (ty := .byte) (hts _ la_byte) (fun c h => h) (fun c k comp h2 h3 => fun n z => ⟨fun q h => (by cases h), k, h2, comp, h3⟩)
  obtain ⟨t2, t2a, t2b⟩ := q_tcOf (ty := .boolean) (hts _ la_boolean) (fun c h => h) (fun c k comp h2 h3 => fun n z => ⟨fun q h => (by cases h), k, h2, comp, h3⟩)
  obtain ⟨t3, t3a, t3b⟩ := q_tcOf (ty := .long) (hts _ la_long) (fun c h => h) (fun c k comp h2 h3 => fun n z => ⟨fun q h => (by cases h), k, h2, comp, h3⟩)
  have arr : ∀ j, j < 3 → ∃ t : Nat, (q_tmT j).eval #[Value.ref b] s none [] s = some (.ref t) ∧ va_T .int t (q_stab j).length (fun i => .int ((q_stab j).getD i 0)) (fun q => s.heap.size ≤ q) s s.heap := by
    intro j hj
    refine va_Tof (by rcases (show j = 0 ∨ j = 1 ∨ j = 2 by omega) with rfl | rfl | rfl <;> decide) ?_ (va_eqt ?_) (fun i hi => va_eqt ?_) hA
    · rcases (show j = 0 ∨ j = 1 ∨ j = 2 by omega) with rfl | rfl | rfl <;> exact hs _ (by decide +kernel)
    · rcases (show j = 0 ∨ j = 1 ∨ j = 2 by omega) with rfl | rfl | rfl <;> exact hs _ (by decide +kernel)
    · have key : ∀ j, j < 3 → ∀ i, i < (q_stab j).length → Cond.eq (.elem (q_tmT j) (.int (Int32.ofNat i))) (.int ((q_stab j).getD i 0)) ∈ flatC (Jvm.Cond.and given_1 narrow_1) := by decide +kernel
      exact hs _ (key j hj i hi)
  obtain ⟨z0, z0a, z0b⟩ := arr 0 (by omega)
  obtain ⟨z1, z1a, z1b⟩ := arr 1 (by omega)
  obtain ⟨z2, z2a, z2b⟩ := arr 2 (by omega)
  have c2 : ∀ i : Nat, i < 2 → i = 0 ∨ i = 1 := fun i h => by omega
  obtain ⟨adK, adV, hS, hE⟩ := vk_Sof (args := #[Value.ref b]) (s := s) (N := 2) (tm := q_tmS) (len := [61, 11]) (byt := [q_sby 0, q_sby 1]) (A := fun q => s.heap.size ≤ q)
    (fun i hi => by rcases c2 i hi with rfl | rfl <;> decide)
    (fun i hi => by rcases c2 i hi with rfl | rfl <;> exact hs _ (by decide +kernel))
    (fun i hi => by rcases c2 i hi with rfl | rfl <;> exact hs _ (by decide +kernel))
    (fun i hi => by rcases c2 i hi with rfl | rfl <;> exact hs _ (by decide +kernel))
    (fun i hi => by rcases c2 i hi with rfl | rfl <;> exact hs _ (by decide +kernel))
    (fun i hi j hj => hs _ ((by decide +kernel : ∀ i, i < 2 → ∀ j, j < ([61, 11] : List Nat).getD i 0 → Cond.eq (.elem (.field (q_tmS i) "java/lang/String" "value" "[B") (.int (Int32.ofNat j))) (.int ((([q_sby 0, q_sby 1] : List (List Int32)).getD i []).getD j 0)) ∈ flatC (Jvm.Cond.and given_1 narrow_1)) i hi j hj))
    (fun i j hi hj hij => by
      rcases c2 i hi with rfl | rfl <;> rcases c2 j hj with rfl | rfl
      · exact absurd rfl hij
      · exact Or.inl (hs _ (by decide +kernel))
      · exact Or.inr (hs _ (by decide +kernel))
      · exact absurd rfl hij) hA
  have hcs := va_Zof (hts _ ls_3) (hts _ li_1) (va_eqi (hs (Cond.eq (.static "java/lang/String" "COMPACT_STRINGS" "Z") (.int 1)) (by decide +kernel))) hA
  have hsf := va_Zqof (hts _ ls_4) (hts _ li_2) (hs _ (by decide +kernel)) hA
  obtain ⟨sf, hsf⟩ : ∃ t : Nat, va_Z "jdk/internal/util/Preconditions" "SIOOBE_FORMATTER" "Ljava/util/function/BiFunction;" .null (fun q => s.heap.size ≤ q) s s.heap ∨ va_Z "jdk/internal/util/Preconditions" "SIOOBE_FORMATTER" "Ljava/util/function/BiFunction;" (.ref t) (fun q => s.heap.size ≤ q) s s.heap := by
    rcases hsf with h | ⟨t, h⟩
    · exact ⟨0, Or.inl h⟩
    · exact ⟨t, Or.inr h⟩
  refine ⟨(fun k => ([c0, c1, c2', c3, c4, c5, c6, c7, c8, c9, c10, c11] : List ClassId).getD k 0, fun k => ([i0, i1, i2, i3, i4, i5, i6, i7, i8, i9, i10, i11] : List (Nat → Nat)).getD k (fun _ => 0)), fun k => ([t0, t1, t2, t3] : List ClassId).getD k 0, fun k => if k < 1100 then ([z0, z1, z2] : List Nat).getD (k - 1000) 0 else if k < 1110 then adK (k - 1100) else if k < 1120 then adV (k - 1110) else sf, ⟨fun c q hc => ?_, fun k q hk => ?_⟩, ⟨fun j hj => ?_, ?_, fun i hi => ?_, hcs, ?_⟩, fun w hw => ?_⟩
  · match c, hc with
    | 0, hc => cases hc; exact k0
    | 1, hc => cases hc; exact k1
    | 2, hc => cases hc; exact k2
    | 3, hc => cases hc; exact k3
    | 4, hc => cases hc; exact k4
    | 5, hc => cases hc; exact k5
    | 6, hc => cases hc; exact k6
    | 7, hc => cases hc; exact k7
    | 8, hc => cases hc; exact k8
    | 9, hc => cases hc; exact k9
    | 10, hc => cases hc; exact k10
    | 11, hc => cases hc; exact k11
    | c + 12, hc => simp at hc
  · match k, hk with
    | 0, hk => cases hk; exact ⟨t0a, t0b⟩
    | 1, hk => cases hk; exact ⟨t1a, t1b⟩
    | 2, hk => cases hk; exact ⟨t2a, t2b⟩
    | 3, hk => cases hk; exact ⟨t3a, t3b⟩
    | k + 4, hk => simp [q_tys] at hk
  · rcases (show j = 0 ∨ j = 1 ∨ j = 2 by omega) with rfl | rfl | rfl
    · exact ⟨va_Zof (hts _ ls_0) (hts _ li_0) z0a hA, z0b⟩
    · exact ⟨va_Zof (hts _ ls_1) (hts _ li_0) z1a hA, z1b⟩
    · exact ⟨va_Zof (hts _ ls_2) (hts _ li_0) z2a hA, z2b⟩
  · refine ⟨fun i hi => ?_, fun i j hi hj h => hS.2 i j hi hj ?_⟩
    · have h9 := hS.1 i hi
      rcases c2 i hi with rfl | rfl <;> exact h9
    · rcases c2 i hi with rfl | rfl <;> rcases c2 j hj with rfl | rfl <;> exact h
  · have h9 := hE i hi
    rcases c2 i hi with rfl | rfl
    · exact vk_R.of (hts _ lsr_0) h9
    · exact vk_R.of (hts _ lsr_1) h9
  · exact hsf
  · simp only [q_nest, List.mem_cons, List.not_mem_nil, or_false] at hw
    rcases hw with rfl | rfl | rfl | rfl | rfl
    · exact va_Nw.of rfl (hts _ ln_0)
    · exact va_Nw.of rfl (hts _ ln_1)
    · exact va_Nw.of rfl (hts _ ln_2)
    · exact va_Nw.of rfl (hts _ ln_3)
    · exact va_Nw.of rfl (hts _ ln_4)
