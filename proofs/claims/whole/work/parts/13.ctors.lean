/-! constructors (printed by program) -/
theorem q_nd (l : List Nat) (h : l.Nodup) : va_nd l = true := by
  induction l with
  | nil => rfl
  | cons a t ih =>
    obtain ⟨h1, h2⟩ := List.nodup_cons.mp h
    simp [va_nd, h1, ih h2]
theorem q_Kcall2 {X : q_X} {l : Launch} {M M' : q_M} {d d' mc ms h0 : Nat} {post : va_W → Prop} {pc nx : Nat} {lv : List (Nat × Value)} {st : List Value} {c n : Nat} {idx nn mc1 ms1 ci1 h1 : Nat} {As stk : List Value} {f1 : List Value} {post1 : va_W → Prop} {wr : va_W} (hd : q_d M pc 3 (.invokespecial idx) nx) (hV : q_CI M.1 idx M' nn) (hC : q_KC X l M' d' mc1 ms1 h1 As ci1 f1 post1)
    (hn : As.length = nn) (hs : stk = As.reverse ++ .ref h1 :: st) (hw : (st.map fun v => v.category).sum ≤ 8) (hdd : d' + 1 ≤ d) (hc : c + mc1 ≤ mc) (hss : n + ms1 ≤ ms)
    (kk : ∀ w1, post1 w1 → q_KJ X l M d mc ms h0 post nx lv st (wr ++ w1) (c + mc1) (n + ms1)) : q_KJ X l M d mc ms h0 post pc lv stk (wr ++ [(h1, .inr (ci1, f1))]) c n := by
  refine q_Kcall wr.length (List.range wr.length) hd hV hC ?_ ?_ (q_nd _ List.nodup_range) (by simp) hn hs hw hdd hc hss kk
  · simp
  · apply List.ext_getElem?
    intro i
    by_cases h : i < wr.length
    · simp [h, List.getElem?_append_left h]
    · simp [h]
theorem vp_int (cA : ClassId) (N : Nat) : vp_cell cA (N, .inl (fun _ => 0)) = arrV cA N (fun _ => defaultValue .int) := by rw [vp_cell_i]; rfl
theorem vp_byte (cA : ClassId) (N : Nat) : vp_cell cA (N, .inl (fun _ => 0)) = arrV cA N (fun _ => defaultValue .byte) := by rw [vp_cell_i]; rfl
theorem vp_bool (cA : ClassId) (N : Nat) : vp_cell cA (N, .inl (fun _ => 0)) = arrV cA N (fun _ => defaultValue .boolean) := by rw [vp_cell_i]; rfl
theorem ra_int (U : State) (a b : ClassId) (h1 : va_RA U a .int) (h2 : va_RA U b .int) : a = b := Option.some.inj (Eq.trans (Eq.symm h1) h2)
theorem ra_byte (U : State) (a b : ClassId) (h1 : va_RA U a .byte) (h2 : va_RA U b .byte) : a = b := Option.some.inj (Eq.trans (Eq.symm h1) h2)
theorem ra_bool (U : State) (a b : ClassId) (h1 : va_RA U a .boolean) (h2 : va_RA U b .boolean) : a = b := Option.some.inj (Eq.trans (Eq.symm h1) h2)
theorem tb_189 : Cond.arrayClass .int ∈ q_tb := ch_1 _ (List.mem_of_getElem? (i := 66) rfl) rfl
theorem ac_int : Cond.arrayClass .int ∈ q_tb := tb_189
theorem tb_163 : Cond.arrayClass .byte ∈ q_tb := ch_1 _ (List.mem_of_getElem? (i := 40) rfl) rfl
theorem ac_byte : Cond.arrayClass .byte ∈ q_tb := tb_163
theorem tb_214 : Cond.arrayClass .boolean ∈ q_tb := ch_1 _ (List.mem_of_getElem? (i := 91) rfl) rfl
theorem ac_boolean : Cond.arrayClass .boolean ∈ q_tb := tb_214
theorem tb_378 : Cond.arrayClass .long ∈ q_tb := ch_2 _ (List.mem_of_getElem? (i := 15) rfl) rfl
theorem ac_long : Cond.arrayClass .long ∈ q_tb := tb_378
theorem tb_148 : Cond.instanceMethod objectInit ∈ q_tb := ch_1 _ (List.mem_of_getElem? (i := 25) rfl) rfl
theorem oi_1 : Cond.instanceMethod objectInit ∈ q_tb := tb_148
theorem tb_149 : Cond.code objectInit ⟨#[0xb1]⟩ 1 none ∈ q_tb := ch_1 _ (List.mem_of_getElem? (i := 26) rfl) rfl
theorem oi_2 : Cond.code objectInit ⟨#[0xb1]⟩ 1 none ∈ q_tb := tb_149
theorem tb_155 : Cond.methodLink RX9 3 objectInit ∈ q_tb := ch_1 _ (List.mem_of_getElem? (i := 32) rfl) rfl
theorem ol_9_3 : Cond.methodLink RX9 3 objectInit ∈ q_tb := tb_155
theorem fpf_9_11 : q_FPF RX9 11 9 0 (.array .byte) := ⟨by decide, RX9, TX9, 2, tyX9, rfl, rfl, by decide, uX9, tb_156, tyX9_ok, nmX9, rfl, rfl, by decide +kernel⟩
def wwX9_init (X : q_X) (h0 q1 : Nat) : va_W := [(h0, .inr (9, [.ref q1, .int 0])),
  (q1, .inl (X.2.1 1, 2000, .inl (fun _ => 0)))]
set_option maxHeartbeats 4000000 in
set_option maxRecDepth 100000 in
theorem nX9_init (X : q_X) (l : Launch) (h0 : Nat) : q_KC X l mX9_init 1 1 2000 h0 [] 9 [.null, .int 0] (fun ws => ∃ q1 : Nat, ws = wwX9_init X h0 q1) := by
  refine q_Kintro (lv := [(0, .ref h0)]) (by decide +kernel) rfl rfl (Nat.le_of_ble_eq_true rfl) rfl ?_
  refine q_Kaload_n 0 eX9_init_0 rfl rfl ?_
  refine q_Kobj eX9_init_1 ol_9_3 oi_1 oi_2 (by decide) (Nat.le_of_ble_eq_true rfl) ?_
  refine q_Kaload_n 0 eX9_init_4 rfl rfl ?_
  refine q_Ksipush eX9_init_5 ksipush_2000 ?_
  refine q_Knewi (N := 2000) (ty := .byte) 1 eX9_init_8 rfl rfl ra_byte ac_byte (fun cA => vp_byte cA 2000) (by decide) (by decide) (Nat.le_of_ble_eq_true rfl) (Nat.le_of_ble_eq_true rfl) (Nat.le_of_ble_eq_true rfl) (fun q1 => ?_)
  refine q_KputF (ws' := ((h0, .inr (9, [.ref q1, .int 0])) :: ([] ++ [(q1, .inl (X.2.1 1, 2000, .inl (fun _ => 0)))]))) 0 eX9_init_10 fpf_9_11 rfl ⟨rfl, rfl⟩ (Nat.le_of_ble_eq_true rfl) rfl ?_
  exact q_Kret eX9_init_13 rfl (Nat.le_of_ble_eq_true rfl) (Nat.le_of_ble_eq_true rfl) ⟨q1, rfl⟩
theorem tb_175 : Cond.methodLink RX6 3 objectInit ∈ q_tb := ch_1 _ (List.mem_of_getElem? (i := 52) rfl) rfl
theorem ol_6_3 : Cond.methodLink RX6 3 objectInit ∈ q_tb := tb_175
theorem fpf_6_11 : q_FPF RX6 11 6 0 (.array .int) := ⟨by decide, RX6, TX6, 4, tyX6, rfl, rfl, by decide, uX6, tb_176, tyX6_ok, nmX6, rfl, rfl, by decide +kernel⟩
theorem fpf_6_15 : q_FPF RX6 15 6 1 (.array .int) := ⟨by decide, RX6, TX6, 4, tyX6, rfl, rfl, by decide, uX6, tb_177, tyX6_ok, nmX6, rfl, rfl, by decide +kernel⟩
def wwX6_init (X : q_X) (h0 q1 q2 : Nat) : va_W := [(h0, .inr (6, [.ref q1, .ref q2, .int 0, .int 480])),
  (q1, .inl (X.2.1 0, 480, .inl (fun _ => 0))),
  (q2, .inl (X.2.1 0, 2880, .inl (fun _ => 0)))]
set_option maxHeartbeats 4000000 in
set_option maxRecDepth 100000 in
theorem nX6_init (X : q_X) (l : Launch) (h0 : Nat) : q_KC X l mX6_init 1 2 3360 h0 [] 6 [.null, .null, .int 0, .int 0] (fun ws => ∃ q1 q2 : Nat, ws = wwX6_init X h0 q1 q2) := by
  refine q_Kintro (lv := [(0, .ref h0)]) (by decide +kernel) rfl rfl (Nat.le_of_ble_eq_true rfl) rfl ?_
  refine q_Kaload_n 0 eX6_init_0 rfl rfl ?_
  refine q_Kobj eX6_init_1 ol_6_3 oi_1 oi_2 (by decide) (Nat.le_of_ble_eq_true rfl) ?_
  refine q_Kaload_n 0 eX6_init_4 rfl rfl ?_
  refine q_Ksipush eX6_init_5 ksipush_480 ?_
  refine q_Knewi (N := 480) (ty := .int) 0 eX6_init_8 rfl rfl ra_int ac_int (fun cA => vp_int cA 480) (by decide) (by decide) (Nat.le_of_ble_eq_true rfl) (Nat.le_of_ble_eq_true rfl) (Nat.le_of_ble_eq_true rfl) (fun q1 => ?_)
  refine q_KputF (ws' := ((h0, .inr (6, [.ref q1, .null, .int 0, .int 0])) :: ([] ++ [(q1, .inl (X.2.1 0, 480, .inl (fun _ => 0)))]))) 0 eX6_init_10 fpf_6_11 rfl ⟨rfl, rfl⟩ (Nat.le_of_ble_eq_true rfl) rfl ?_
  refine q_Kaload_n 0 eX6_init_13 rfl rfl ?_
  refine q_Ksipush eX6_init_14 ksipush_2880 ?_
  refine q_Knewi (N := 2880) (ty := .int) 0 eX6_init_17 rfl rfl ra_int ac_int (fun cA => vp_int cA 2880) (by decide) (by decide) (Nat.le_of_ble_eq_true rfl) (Nat.le_of_ble_eq_true rfl) (Nat.le_of_ble_eq_true rfl) (fun q2 => ?_)
  refine q_KputF (ws' := ((h0, .inr (6, [.ref q1, .ref q2, .int 0, .int 0])) :: (([] ++ [(q1, .inl (X.2.1 0, 480, .inl (fun _ => 0)))]) ++ [(q2, .inl (X.2.1 0, 2880, .inl (fun _ => 0)))]))) 0 eX6_init_19 fpf_6_15 rfl ⟨rfl, rfl⟩ (Nat.le_of_ble_eq_true rfl) rfl ?_
  refine q_Kaload_n 0 eX6_init_22 rfl rfl ?_
  refine q_Ksipush eX6_init_23 ksipush_480 ?_
  refine q_Kput (ws' := ((h0, .inr (6, [.ref q1, .ref q2, .int 0, .int 480])) :: (([] ++ [(q1, .inl (X.2.1 0, 480, .inl (fun _ => 0)))]) ++ [(q2, .inl (X.2.1 0, 2880, .inl (fun _ => 0)))]))) 0 eX6_init_26 fp_6_18 rfl ⟨rfl, rfl⟩ (Nat.le_of_ble_eq_true rfl) rfl ?_
  exact q_Kret eX6_init_29 rfl (Nat.le_of_ble_eq_true rfl) (Nat.le_of_ble_eq_true rfl) ⟨q1, q2, rfl⟩
theorem tb_222 : Cond.methodLink RX0 3 objectInit ∈ q_tb := ch_1 _ (List.mem_of_getElem? (i := 99) rfl) rfl
theorem ol_0_3 : Cond.methodLink RX0 3 objectInit ∈ q_tb := tb_222
theorem fpf_0_11 : q_FPF RX0 11 0 0 (.array .int) := ⟨by decide, RX0, TX0, 6, tyX0, rfl, rfl, by decide, uX0, tb_223, tyX0_ok, nmX0, rfl, rfl, by decide +kernel⟩
def wwX0_init (X : q_X) (h0 q1 a1 : Nat) : va_W := [(h0, .inr (0, [.ref q1, .ref a1, .int 0, .int 0, .int 0, .int 0])),
  (q1, .inl (X.2.1 0, 120, .inl (fun _ => 0)))]
set_option maxHeartbeats 4000000 in
set_option maxRecDepth 100000 in
theorem nX0_init (X : q_X) (l : Launch) (h0 a1 : Nat) : q_KC X l mX0_init 1 1 120 h0 [.ref a1] 0 [.null, .null, .int 0, .int 0, .int 0, .int 0] (fun ws => ∃ q1 : Nat, ws = wwX0_init X h0 q1 a1) := by
  refine q_Kintro (lv := [(0, .ref h0), (1, .ref a1)]) (by decide +kernel) rfl rfl (Nat.le_of_ble_eq_true rfl) rfl ?_
  refine q_Kaload_n 0 eX0_init_0 rfl rfl ?_
  refine q_Kobj eX0_init_1 ol_0_3 oi_1 oi_2 (by decide) (Nat.le_of_ble_eq_true rfl) ?_
  refine q_Kaload_n 0 eX0_init_4 rfl rfl ?_
  refine q_Kbipush eX0_init_5 kbipush_120 ?_
  refine q_Knewi (N := 120) (ty := .int) 0 eX0_init_7 rfl rfl ra_int ac_int (fun cA => vp_int cA 120) (by decide) (by decide) (Nat.le_of_ble_eq_true rfl) (Nat.le_of_ble_eq_true rfl) (Nat.le_of_ble_eq_true rfl) (fun q1 => ?_)
  refine q_KputF (ws' := ((h0, .inr (0, [.ref q1, .null, .int 0, .int 0, .int 0, .int 0])) :: ([] ++ [(q1, .inl (X.2.1 0, 120, .inl (fun _ => 0)))]))) 0 eX0_init_9 fpf_0_11 rfl ⟨rfl, rfl⟩ (Nat.le_of_ble_eq_true rfl) rfl ?_
  refine q_Kaload_n 0 eX0_init_12 rfl rfl ?_
  refine q_Kaload_n 1 eX0_init_13 rfl rfl ?_
  refine q_Kput (ws' := ((h0, .inr (0, [.ref q1, .ref a1, .int 0, .int 0, .int 0, .int 0])) :: ([] ++ [(q1, .inl (X.2.1 0, 120, .inl (fun _ => 0)))]))) 0 eX0_init_14 fp_0_15 rfl ⟨rfl, rfl⟩ (Nat.le_of_ble_eq_true rfl) rfl ?_
  exact q_Kret eX0_init_17 rfl (Nat.le_of_ble_eq_true rfl) (Nat.le_of_ble_eq_true rfl) ⟨q1, rfl⟩
theorem tb_247 : Cond.methodLink RX8 5 objectInit ∈ q_tb := ch_1 _ (List.mem_of_getElem? (i := 124) rfl) rfl
theorem ol_8_5 : Cond.methodLink RX8 5 objectInit ∈ q_tb := tb_247
theorem fpf_8_11 : q_FPF RX8 11 8 0 (.array .int) := ⟨by decide, RX8, TX8, 9, tyX8, rfl, rfl, by decide, uX8, tb_248, tyX8_ok, nmX8, rfl, rfl, by decide +kernel⟩
theorem fpf_8_15 : q_FPF RX8 15 8 1 (.array .int) := ⟨by decide, RX8, TX8, 9, tyX8, rfl, rfl, by decide, uX8, tb_249, tyX8_ok, nmX8, rfl, rfl, by decide +kernel⟩
theorem fpf_8_18 : q_FPF RX8 18 8 2 (.array .boolean) := ⟨by decide, RX8, TX8, 9, tyX8, rfl, rfl, by decide, uX8, tb_250, tyX8_ok, nmX8, rfl, rfl, by decide +kernel⟩
def wwX8_init (X : q_X) (h0 q1 q2 q3 : Nat) : va_W := [(h0, .inr (8, [.ref q1, .ref q2, .ref q3, .int 0, .int 0, .int 0, .int 0, .int (-1), .int (-1)])),
  (q1, .inl (X.2.1 0, 256, .inl (fun _ => 0))),
  (q2, .inl (X.2.1 0, 256, .inl (fun _ => 0))),
  (q3, .inl (X.2.1 2, 256, .inl (fun _ => 0)))]
set_option maxHeartbeats 4000000 in
set_option maxRecDepth 100000 in
theorem nX8_init (X : q_X) (l : Launch) (h0 : Nat) : q_KC X l mX8_init 1 3 768 h0 [] 8 [.null, .null, .null, .int 0, .int 0, .int 0, .int 0, .int 0, .int 0] (fun ws => ∃ q1 q2 q3 : Nat, ws = wwX8_init X h0 q1 q2 q3) := by
  refine q_Kintro (lv := [(0, .ref h0)]) (by decide +kernel) rfl rfl (Nat.le_of_ble_eq_true rfl) rfl ?_
  refine q_Kaload_n 0 eX8_init_0 rfl rfl ?_
  refine q_Kobj eX8_init_1 ol_8_5 oi_1 oi_2 (by decide) (Nat.le_of_ble_eq_true rfl) ?_
  refine q_Kaload_n 0 eX8_init_4 rfl rfl ?_
  refine q_Ksipush eX8_init_5 ksipush_256 ?_
  refine q_Knewi (N := 256) (ty := .int) 0 eX8_init_8 rfl rfl ra_int ac_int (fun cA => vp_int cA 256) (by decide) (by decide) (Nat.le_of_ble_eq_true rfl) (Nat.le_of_ble_eq_true rfl) (Nat.le_of_ble_eq_true rfl) (fun q1 => ?_)
  refine q_KputF (ws' := ((h0, .inr (8, [.ref q1, .null, .null, .int 0, .int 0, .int 0, .int 0, .int 0, .int 0])) :: ([] ++ [(q1, .inl (X.2.1 0, 256, .inl (fun _ => 0)))]))) 0 eX8_init_10 fpf_8_11 rfl ⟨rfl, rfl⟩ (Nat.le_of_ble_eq_true rfl) rfl ?_
  refine q_Kaload_n 0 eX8_init_13 rfl rfl ?_
  refine q_Ksipush eX8_init_14 ksipush_256 ?_
  refine q_Knewi (N := 256) (ty := .int) 0 eX8_init_17 rfl rfl ra_int ac_int (fun cA => vp_int cA 256) (by decide) (by decide) (Nat.le_of_ble_eq_true rfl) (Nat.le_of_ble_eq_true rfl) (Nat.le_of_ble_eq_true rfl) (fun q2 => ?_)
  refine q_KputF (ws' := ((h0, .inr (8, [.ref q1, .ref q2, .null, .int 0, .int 0, .int 0, .int 0, .int 0, .int 0])) :: (([] ++ [(q1, .inl (X.2.1 0, 256, .inl (fun _ => 0)))]) ++ [(q2, .inl (X.2.1 0, 256, .inl (fun _ => 0)))]))) 0 eX8_init_19 fpf_8_15 rfl ⟨rfl, rfl⟩ (Nat.le_of_ble_eq_true rfl) rfl ?_
  refine q_Kaload_n 0 eX8_init_22 rfl rfl ?_
  refine q_Ksipush eX8_init_23 ksipush_256 ?_
  refine q_Knewi (N := 256) (ty := .boolean) 2 eX8_init_26 rfl rfl ra_bool ac_boolean (fun cA => vp_bool cA 256) (by decide) (by decide) (Nat.le_of_ble_eq_true rfl) (Nat.le_of_ble_eq_true rfl) (Nat.le_of_ble_eq_true rfl) (fun q3 => ?_)
  refine q_KputF (ws' := ((h0, .inr (8, [.ref q1, .ref q2, .ref q3, .int 0, .int 0, .int 0, .int 0, .int 0, .int 0])) :: ((([] ++ [(q1, .inl (X.2.1 0, 256, .inl (fun _ => 0)))]) ++ [(q2, .inl (X.2.1 0, 256, .inl (fun _ => 0)))]) ++ [(q3, .inl (X.2.1 2, 256, .inl (fun _ => 0)))]))) 0 eX8_init_28 fpf_8_18 rfl ⟨rfl, rfl⟩ (Nat.le_of_ble_eq_true rfl) rfl ?_
  refine q_Kaload_n 0 eX8_init_31 rfl rfl ?_
  refine q_Kiconst eX8_init_32 kiconst_m1 ?_
  refine q_Kput (ws' := ((h0, .inr (8, [.ref q1, .ref q2, .ref q3, .int 0, .int 0, .int 0, .int 0, .int (-1), .int 0])) :: ((([] ++ [(q1, .inl (X.2.1 0, 256, .inl (fun _ => 0)))]) ++ [(q2, .inl (X.2.1 0, 256, .inl (fun _ => 0)))]) ++ [(q3, .inl (X.2.1 2, 256, .inl (fun _ => 0)))]))) 0 eX8_init_33 fp_8_22 rfl ⟨rfl, rfl⟩ (Nat.le_of_ble_eq_true rfl) rfl ?_
  refine q_Kaload_n 0 eX8_init_36 rfl rfl ?_
  refine q_Kiconst eX8_init_37 kiconst_m1 ?_
  refine q_Kput (ws' := ((h0, .inr (8, [.ref q1, .ref q2, .ref q3, .int 0, .int 0, .int 0, .int 0, .int (-1), .int (-1)])) :: ((([] ++ [(q1, .inl (X.2.1 0, 256, .inl (fun _ => 0)))]) ++ [(q2, .inl (X.2.1 0, 256, .inl (fun _ => 0)))]) ++ [(q3, .inl (X.2.1 2, 256, .inl (fun _ => 0)))]))) 0 eX8_init_38 fp_8_26 rfl ⟨rfl, rfl⟩ (Nat.le_of_ble_eq_true rfl) rfl ?_
  exact q_Kret eX8_init_41 rfl (Nat.le_of_ble_eq_true rfl) (Nat.le_of_ble_eq_true rfl) ⟨q1, q2, q3, rfl⟩
theorem tb_281 : Cond.methodLink RX4 1 objectInit ∈ q_tb := ch_1 _ (List.mem_of_getElem? (i := 158) rfl) rfl
theorem ol_4_1 : Cond.methodLink RX4 1 objectInit ∈ q_tb := tb_281
theorem fpf_4_9 : q_FPF RX4 9 4 0 (.array .int) := ⟨by decide, RX4, TX4, 5, tyX4, rfl, rfl, by decide, uX4, tb_282, tyX4_ok, nmX4, rfl, rfl, by decide +kernel⟩
theorem fpf_4_13 : q_FPF RX4 13 4 1 (.array .int) := ⟨by decide, RX4, TX4, 5, tyX4, rfl, rfl, by decide, uX4, tb_283, tyX4_ok, nmX4, rfl, rfl, by decide +kernel⟩
theorem fpf_4_16 : q_FPF RX4 16 4 2 (.array .int) := ⟨by decide, RX4, TX4, 5, tyX4, rfl, rfl, by decide, uX4, tb_284, tyX4_ok, nmX4, rfl, rfl, by decide +kernel⟩
def wwX4_init (X : q_X) (h0 q1 q2 q3 : Nat) : va_W := [(h0, .inr (4, [.ref q1, .ref q2, .ref q3, .int 0, .int 0])),
  (q1, .inl (X.2.1 0, 2000, .inl (fun _ => 0))),
  (q2, .inl (X.2.1 0, 8, .inl (fun _ => 0))),
  (q3, .inl (X.2.1 0, 8, .inl (fun _ => 0)))]
set_option maxHeartbeats 4000000 in
set_option maxRecDepth 100000 in
theorem nX4_init (X : q_X) (l : Launch) (h0 : Nat) : q_KC X l mX4_init 1 3 2016 h0 [] 4 [.null, .null, .null, .int 0, .int 0] (fun ws => ∃ q1 q2 q3 : Nat, ws = wwX4_init X h0 q1 q2 q3) := by
  refine q_Kintro (lv := [(0, .ref h0)]) (by decide +kernel) rfl rfl (Nat.le_of_ble_eq_true rfl) rfl ?_
  refine q_Kaload_n 0 eX4_init_0 rfl rfl ?_
  refine q_Kobj eX4_init_1 ol_4_1 oi_1 oi_2 (by decide) (Nat.le_of_ble_eq_true rfl) ?_
  refine q_Kaload_n 0 eX4_init_4 rfl rfl ?_
  refine q_Ksipush eX4_init_5 ksipush_2000 ?_
  refine q_Knewi (N := 2000) (ty := .int) 0 eX4_init_8 rfl rfl ra_int ac_int (fun cA => vp_int cA 2000) (by decide) (by decide) (Nat.le_of_ble_eq_true rfl) (Nat.le_of_ble_eq_true rfl) (Nat.le_of_ble_eq_true rfl) (fun q1 => ?_)
  refine q_KputF (ws' := ((h0, .inr (4, [.ref q1, .null, .null, .int 0, .int 0])) :: ([] ++ [(q1, .inl (X.2.1 0, 2000, .inl (fun _ => 0)))]))) 0 eX4_init_10 fpf_4_9 rfl ⟨rfl, rfl⟩ (Nat.le_of_ble_eq_true rfl) rfl ?_
  refine q_Kaload_n 0 eX4_init_13 rfl rfl ?_
  refine q_Kbipush eX4_init_14 kbipush_8 ?_
  refine q_Knewi (N := 8) (ty := .int) 0 eX4_init_16 rfl rfl ra_int ac_int (fun cA => vp_int cA 8) (by decide) (by decide) (Nat.le_of_ble_eq_true rfl) (Nat.le_of_ble_eq_true rfl) (Nat.le_of_ble_eq_true rfl) (fun q2 => ?_)
  refine q_KputF (ws' := ((h0, .inr (4, [.ref q1, .ref q2, .null, .int 0, .int 0])) :: (([] ++ [(q1, .inl (X.2.1 0, 2000, .inl (fun _ => 0)))]) ++ [(q2, .inl (X.2.1 0, 8, .inl (fun _ => 0)))]))) 0 eX4_init_18 fpf_4_13 rfl ⟨rfl, rfl⟩ (Nat.le_of_ble_eq_true rfl) rfl ?_
  refine q_Kaload_n 0 eX4_init_21 rfl rfl ?_
  refine q_Kbipush eX4_init_22 kbipush_8 ?_
  refine q_Knewi (N := 8) (ty := .int) 0 eX4_init_24 rfl rfl ra_int ac_int (fun cA => vp_int cA 8) (by decide) (by decide) (Nat.le_of_ble_eq_true rfl) (Nat.le_of_ble_eq_true rfl) (Nat.le_of_ble_eq_true rfl) (fun q3 => ?_)
  refine q_KputF (ws' := ((h0, .inr (4, [.ref q1, .ref q2, .ref q3, .int 0, .int 0])) :: ((([] ++ [(q1, .inl (X.2.1 0, 2000, .inl (fun _ => 0)))]) ++ [(q2, .inl (X.2.1 0, 8, .inl (fun _ => 0)))]) ++ [(q3, .inl (X.2.1 0, 8, .inl (fun _ => 0)))]))) 0 eX4_init_26 fpf_4_16 rfl ⟨rfl, rfl⟩ (Nat.le_of_ble_eq_true rfl) rfl ?_
  exact q_Kret eX4_init_29 rfl (Nat.le_of_ble_eq_true rfl) (Nat.le_of_ble_eq_true rfl) ⟨q1, q2, q3, rfl⟩
theorem tb_421 : Cond.methodLink RX1 3 objectInit ∈ q_tb := ch_2 _ (List.mem_of_getElem? (i := 58) rfl) rfl
theorem ol_1_3 : Cond.methodLink RX1 3 objectInit ∈ q_tb := tb_421
theorem fpf_1_11 : q_FPF RX1 11 1 0 (.array .int) := ⟨by decide, RX1, TX1, 14, tyX1, rfl, rfl, by decide, uX1, tb_422, tyX1_ok, nmX1, rfl, rfl, by decide +kernel⟩
theorem fpf_1_15 : q_FPF RX1 15 1 1 (.array .int) := ⟨by decide, RX1, TX1, 14, tyX1, rfl, rfl, by decide, uX1, tb_423, tyX1_ok, nmX1, rfl, rfl, by decide +kernel⟩
theorem fpf_1_18 : q_FPF RX1 18 1 2 (.array .int) := ⟨by decide, RX1, TX1, 14, tyX1, rfl, rfl, by decide, uX1, tb_424, tyX1_ok, nmX1, rfl, rfl, by decide +kernel⟩
theorem fpf_1_21 : q_FPF RX1 21 1 3 (.array .int) := ⟨by decide, RX1, TX1, 14, tyX1, rfl, rfl, by decide, uX1, tb_425, tyX1_ok, nmX1, rfl, rfl, by decide +kernel⟩
theorem fpf_1_26 : q_FPF RX1 26 1 4 (.array .int) := ⟨by decide, RX1, TX1, 14, tyX1, rfl, rfl, by decide, uX1, tb_426, tyX1_ok, nmX1, rfl, rfl, by decide +kernel⟩
def wwX1_init (X : q_X) (h0 q1 q2 q3 q4 q5 a1 a2 : Nat) : va_W := [(h0, .inr (1, [.ref q1, .ref q2, .ref q3, .ref q4, .ref q5, .ref a1, .ref a2, .int 0, .int 0, .int 0, .int 0, .int 0, .int 0, .int 0])),
  (q1, .inl (X.2.1 0, 64, .inl (fun _ => 0))),
  (q2, .inl (X.2.1 0, 64, .inl (fun _ => 0))),
  (q3, .inl (X.2.1 0, 64, .inl (fun _ => 0))),
  (q4, .inl (X.2.1 0, 8, .inl (fun _ => 0))),
  (q5, .inl (X.2.1 0, 6, .inl (fun _ => 0)))]
set_option maxHeartbeats 4000000 in
set_option maxRecDepth 100000 in
theorem nX1_init (X : q_X) (l : Launch) (h0 a1 a2 : Nat) : q_KC X l mX1_init 1 5 206 h0 [.ref a1, .ref a2] 1 [.null, .null, .null, .null, .null, .null, .null, .int 0, .int 0, .int 0, .int 0, .int 0, .int 0, .int 0] (fun ws => ∃ q1 q2 q3 q4 q5 : Nat, ws = wwX1_init X h0 q1 q2 q3 q4 q5 a1 a2) := by
  refine q_Kintro (lv := [(0, .ref h0), (1, .ref a1), (2, .ref a2)]) (by decide +kernel) rfl rfl (Nat.le_of_ble_eq_true rfl) rfl ?_
  refine q_Kaload_n 0 eX1_init_0 rfl rfl ?_
  refine q_Kobj eX1_init_1 ol_1_3 oi_1 oi_2 (by decide) (Nat.le_of_ble_eq_true rfl) ?_
  refine q_Kaload_n 0 eX1_init_4 rfl rfl ?_
  refine q_Kbipush eX1_init_5 kbipush_64 ?_
  refine q_Knewi (N := 64) (ty := .int) 0 eX1_init_7 rfl rfl ra_int ac_int (fun cA => vp_int cA 64) (by decide) (by decide) (Nat.le_of_ble_eq_true rfl) (Nat.le_of_ble_eq_true rfl) (Nat.le_of_ble_eq_true rfl) (fun q1 => ?_)
  refine q_KputF (ws' := ((h0, .inr (1, [.ref q1, .null, .null, .null, .null, .null, .null, .int 0, .int 0, .int 0, .int 0, .int 0, .int 0, .int 0])) :: ([] ++ [(q1, .inl (X.2.1 0, 64, .inl (fun _ => 0)))]))) 0 eX1_init_9 fpf_1_11 rfl ⟨rfl, rfl⟩ (Nat.le_of_ble_eq_true rfl) rfl ?_
  refine q_Kaload_n 0 eX1_init_12 rfl rfl ?_
  refine q_Kbipush eX1_init_13 kbipush_64 ?_
  refine q_Knewi (N := 64) (ty := .int) 0 eX1_init_15 rfl rfl ra_int ac_int (fun cA => vp_int cA 64) (by decide) (by decide) (Nat.le_of_ble_eq_true rfl) (Nat.le_of_ble_eq_true rfl) (Nat.le_of_ble_eq_true rfl) (fun q2 => ?_)
  refine q_KputF (ws' := ((h0, .inr (1, [.ref q1, .ref q2, .null, .null, .null, .null, .null, .int 0, .int 0, .int 0, .int 0, .int 0, .int 0, .int 0])) :: (([] ++ [(q1, .inl (X.2.1 0, 64, .inl (fun _ => 0)))]) ++ [(q2, .inl (X.2.1 0, 64, .inl (fun _ => 0)))]))) 0 eX1_init_17 fpf_1_15 rfl ⟨rfl, rfl⟩ (Nat.le_of_ble_eq_true rfl) rfl ?_
  refine q_Kaload_n 0 eX1_init_20 rfl rfl ?_
  refine q_Kbipush eX1_init_21 kbipush_64 ?_
  refine q_Knewi (N := 64) (ty := .int) 0 eX1_init_23 rfl rfl ra_int ac_int (fun cA => vp_int cA 64) (by decide) (by decide) (Nat.le_of_ble_eq_true rfl) (Nat.le_of_ble_eq_true rfl) (Nat.le_of_ble_eq_true rfl) (fun q3 => ?_)
  refine q_KputF (ws' := ((h0, .inr (1, [.ref q1, .ref q2, .ref q3, .null, .null, .null, .null, .int 0, .int 0, .int 0, .int 0, .int 0, .int 0, .int 0])) :: ((([] ++ [(q1, .inl (X.2.1 0, 64, .inl (fun _ => 0)))]) ++ [(q2, .inl (X.2.1 0, 64, .inl (fun _ => 0)))]) ++ [(q3, .inl (X.2.1 0, 64, .inl (fun _ => 0)))]))) 0 eX1_init_25 fpf_1_18 rfl ⟨rfl, rfl⟩ (Nat.le_of_ble_eq_true rfl) rfl ?_
  refine q_Kaload_n 0 eX1_init_28 rfl rfl ?_
  refine q_Kbipush eX1_init_29 kbipush_8 ?_
  refine q_Knewi (N := 8) (ty := .int) 0 eX1_init_31 rfl rfl ra_int ac_int (fun cA => vp_int cA 8) (by decide) (by decide) (Nat.le_of_ble_eq_true rfl) (Nat.le_of_ble_eq_true rfl) (Nat.le_of_ble_eq_true rfl) (fun q4 => ?_)
  refine q_KputF (ws' := ((h0, .inr (1, [.ref q1, .ref q2, .ref q3, .ref q4, .null, .null, .null, .int 0, .int 0, .int 0, .int 0, .int 0, .int 0, .int 0])) :: (((([] ++ [(q1, .inl (X.2.1 0, 64, .inl (fun _ => 0)))]) ++ [(q2, .inl (X.2.1 0, 64, .inl (fun _ => 0)))]) ++ [(q3, .inl (X.2.1 0, 64, .inl (fun _ => 0)))]) ++ [(q4, .inl (X.2.1 0, 8, .inl (fun _ => 0)))]))) 0 eX1_init_33 fpf_1_21 rfl ⟨rfl, rfl⟩ (Nat.le_of_ble_eq_true rfl) rfl ?_
  refine q_Kaload_n 0 eX1_init_36 rfl rfl ?_
  refine q_Kbipush eX1_init_37 kbipush_6 ?_
  refine q_Knewi (N := 6) (ty := .int) 0 eX1_init_39 rfl rfl ra_int ac_int (fun cA => vp_int cA 6) (by decide) (by decide) (Nat.le_of_ble_eq_true rfl) (Nat.le_of_ble_eq_true rfl) (Nat.le_of_ble_eq_true rfl) (fun q5 => ?_)
  refine q_KputF (ws' := ((h0, .inr (1, [.ref q1, .ref q2, .ref q3, .ref q4, .ref q5, .null, .null, .int 0, .int 0, .int 0, .int 0, .int 0, .int 0, .int 0])) :: ((((([] ++ [(q1, .inl (X.2.1 0, 64, .inl (fun _ => 0)))]) ++ [(q2, .inl (X.2.1 0, 64, .inl (fun _ => 0)))]) ++ [(q3, .inl (X.2.1 0, 64, .inl (fun _ => 0)))]) ++ [(q4, .inl (X.2.1 0, 8, .inl (fun _ => 0)))]) ++ [(q5, .inl (X.2.1 0, 6, .inl (fun _ => 0)))]))) 0 eX1_init_41 fpf_1_26 rfl ⟨rfl, rfl⟩ (Nat.le_of_ble_eq_true rfl) rfl ?_
  refine q_Kaload_n 0 eX1_init_44 rfl rfl ?_
  refine q_Kaload_n 1 eX1_init_45 rfl rfl ?_
  refine q_Kput (ws' := ((h0, .inr (1, [.ref q1, .ref q2, .ref q3, .ref q4, .ref q5, .ref a1, .null, .int 0, .int 0, .int 0, .int 0, .int 0, .int 0, .int 0])) :: ((((([] ++ [(q1, .inl (X.2.1 0, 64, .inl (fun _ => 0)))]) ++ [(q2, .inl (X.2.1 0, 64, .inl (fun _ => 0)))]) ++ [(q3, .inl (X.2.1 0, 64, .inl (fun _ => 0)))]) ++ [(q4, .inl (X.2.1 0, 8, .inl (fun _ => 0)))]) ++ [(q5, .inl (X.2.1 0, 6, .inl (fun _ => 0)))]))) 0 eX1_init_46 fp_1_29 rfl ⟨rfl, rfl⟩ (Nat.le_of_ble_eq_true rfl) rfl ?_
  refine q_Kaload_n 0 eX1_init_49 rfl rfl ?_
  refine q_Kaload_n 2 eX1_init_50 rfl rfl ?_
  refine q_Kput (ws' := ((h0, .inr (1, [.ref q1, .ref q2, .ref q3, .ref q4, .ref q5, .ref a1, .ref a2, .int 0, .int 0, .int 0, .int 0, .int 0, .int 0, .int 0])) :: ((((([] ++ [(q1, .inl (X.2.1 0, 64, .inl (fun _ => 0)))]) ++ [(q2, .inl (X.2.1 0, 64, .inl (fun _ => 0)))]) ++ [(q3, .inl (X.2.1 0, 64, .inl (fun _ => 0)))]) ++ [(q4, .inl (X.2.1 0, 8, .inl (fun _ => 0)))]) ++ [(q5, .inl (X.2.1 0, 6, .inl (fun _ => 0)))]))) 0 eX1_init_51 fp_1_33 rfl ⟨rfl, rfl⟩ (Nat.le_of_ble_eq_true rfl) rfl ?_
  exact q_Kret eX1_init_54 rfl (Nat.le_of_ble_eq_true rfl) (Nat.le_of_ble_eq_true rfl) ⟨q1, q2, q3, q4, q5, rfl⟩
theorem tb_470 : Cond.methodLink RX3 3 objectInit ∈ q_tb := ch_2 _ (List.mem_of_getElem? (i := 107) rfl) rfl
theorem ol_3_3 : Cond.methodLink RX3 3 objectInit ∈ q_tb := tb_470
theorem fpf_3_11 : q_FPF RX3 11 3 4 (.array .int) := ⟨by decide, RX3, TX3, 12, tyX3, rfl, rfl, by decide, uX3, tb_475, tyX3_ok, nmX3, rfl, rfl, by decide +kernel⟩
theorem fpf_3_17 : q_FPF RX3 17 3 5 (.array .int) := ⟨by decide, RX3, TX3, 12, tyX3, rfl, rfl, by decide, uX3, tb_476, tyX3_ok, nmX3, rfl, rfl, by decide +kernel⟩
theorem fpf_3_20 : q_FPF RX3 20 3 6 (.array .int) := ⟨by decide, RX3, TX3, 12, tyX3, rfl, rfl, by decide, uX3, tb_477, tyX3_ok, nmX3, rfl, rfl, by decide +kernel⟩
theorem fpf_3_23 : q_FPF RX3 23 3 7 (.array .int) := ⟨by decide, RX3, TX3, 12, tyX3, rfl, rfl, by decide, uX3, tb_478, tyX3_ok, nmX3, rfl, rfl, by decide +kernel⟩
theorem fpf_3_26 : q_FPF RX3 26 3 8 (.array .int) := ⟨by decide, RX3, TX3, 12, tyX3, rfl, rfl, by decide, uX3, tb_479, tyX3_ok, nmX3, rfl, rfl, by decide +kernel⟩
theorem fpf_3_29 : q_FPF RX3 29 3 0 (.object "MarbleBath$Doer") := ⟨by decide, RX3, TX3, 12, tyX3, rfl, rfl, by decide, uX3, tb_471, tyX3_ok, nmX3, rfl, rfl, by decide +kernel⟩
theorem fpf_3_33 : q_FPF RX3 33 3 1 (.object "MarbleBath$Rows") := ⟨by decide, RX3, TX3, 12, tyX3, rfl, rfl, by decide, uX3, tb_472, tyX3_ok, nmX3, rfl, rfl, by decide +kernel⟩
theorem fpf_3_37 : q_FPF RX3 37 3 2 (.object "MarbleBath$Bath") := ⟨by decide, RX3, TX3, 12, tyX3, rfl, rfl, by decide, uX3, tb_473, tyX3_ok, nmX3, rfl, rfl, by decide +kernel⟩
theorem fpf_3_41 : q_FPF RX3 41 3 3 (.object "MarbleBath$Sheet") := ⟨by decide, RX3, TX3, 12, tyX3, rfl, rfl, by decide, uX3, tb_474, tyX3_ok, nmX3, rfl, rfl, by decide +kernel⟩
def wwX3_init (X : q_X) (h0 q1 q2 q3 q4 q5 a1 a2 a3 a4 : Nat) : va_W := [(h0, .inr (3, [.ref a1, .ref a2, .ref a3, .ref a4, .ref q1, .ref q2, .ref q3, .ref q4, .ref q5, .int 0, .int 0, .int 0])),
  (q1, .inl (X.2.1 0, 8, .inl (fun _ => 0))),
  (q2, .inl (X.2.1 0, 8, .inl (fun _ => 0))),
  (q3, .inl (X.2.1 0, 8, .inl (fun _ => 0))),
  (q4, .inl (X.2.1 0, 3, .inl (fun _ => 0))),
  (q5, .inl (X.2.1 0, 3, .inl (fun _ => 0)))]
set_option maxHeartbeats 4000000 in
set_option maxRecDepth 100000 in
theorem nX3_init (X : q_X) (l : Launch) (h0 a1 a2 a3 a4 : Nat) : q_KC X l mX3_init 1 5 30 h0 [.ref a1, .ref a2, .ref a3, .ref a4] 3 [.null, .null, .null, .null, .null, .null, .null, .null, .null, .int 0, .int 0, .int 0] (fun ws => ∃ q1 q2 q3 q4 q5 : Nat, ws = wwX3_init X h0 q1 q2 q3 q4 q5 a1 a2 a3 a4) := by
  refine q_Kintro (lv := [(0, .ref h0), (1, .ref a1), (2, .ref a2), (3, .ref a3), (4, .ref a4)]) (by decide +kernel) rfl rfl (Nat.le_of_ble_eq_true rfl) rfl ?_
  refine q_Kaload_n 0 eX3_init_0 rfl rfl ?_
  refine q_Kobj eX3_init_1 ol_3_3 oi_1 oi_2 (by decide) (Nat.le_of_ble_eq_true rfl) ?_
  refine q_Kaload_n 0 eX3_init_4 rfl rfl ?_
  refine q_Kbipush eX3_init_5 kbipush_8 ?_
  refine q_Knewi (N := 8) (ty := .int) 0 eX3_init_7 rfl rfl ra_int ac_int (fun cA => vp_int cA 8) (by decide) (by decide) (Nat.le_of_ble_eq_true rfl) (Nat.le_of_ble_eq_true rfl) (Nat.le_of_ble_eq_true rfl) (fun q1 => ?_)
  refine q_KputF (ws' := ((h0, .inr (3, [.null, .null, .null, .null, .ref q1, .null, .null, .null, .null, .int 0, .int 0, .int 0])) :: ([] ++ [(q1, .inl (X.2.1 0, 8, .inl (fun _ => 0)))]))) 0 eX3_init_9 fpf_3_11 rfl ⟨rfl, rfl⟩ (Nat.le_of_ble_eq_true rfl) rfl ?_
  refine q_Kaload_n 0 eX3_init_12 rfl rfl ?_
  refine q_Kbipush eX3_init_13 kbipush_8 ?_
  refine q_Knewi (N := 8) (ty := .int) 0 eX3_init_15 rfl rfl ra_int ac_int (fun cA => vp_int cA 8) (by decide) (by decide) (Nat.le_of_ble_eq_true rfl) (Nat.le_of_ble_eq_true rfl) (Nat.le_of_ble_eq_true rfl) (fun q2 => ?_)
  refine q_KputF (ws' := ((h0, .inr (3, [.null, .null, .null, .null, .ref q1, .ref q2, .null, .null, .null, .int 0, .int 0, .int 0])) :: (([] ++ [(q1, .inl (X.2.1 0, 8, .inl (fun _ => 0)))]) ++ [(q2, .inl (X.2.1 0, 8, .inl (fun _ => 0)))]))) 0 eX3_init_17 fpf_3_17 rfl ⟨rfl, rfl⟩ (Nat.le_of_ble_eq_true rfl) rfl ?_
  refine q_Kaload_n 0 eX3_init_20 rfl rfl ?_
  refine q_Kbipush eX3_init_21 kbipush_8 ?_
  refine q_Knewi (N := 8) (ty := .int) 0 eX3_init_23 rfl rfl ra_int ac_int (fun cA => vp_int cA 8) (by decide) (by decide) (Nat.le_of_ble_eq_true rfl) (Nat.le_of_ble_eq_true rfl) (Nat.le_of_ble_eq_true rfl) (fun q3 => ?_)
  refine q_KputF (ws' := ((h0, .inr (3, [.null, .null, .null, .null, .ref q1, .ref q2, .ref q3, .null, .null, .int 0, .int 0, .int 0])) :: ((([] ++ [(q1, .inl (X.2.1 0, 8, .inl (fun _ => 0)))]) ++ [(q2, .inl (X.2.1 0, 8, .inl (fun _ => 0)))]) ++ [(q3, .inl (X.2.1 0, 8, .inl (fun _ => 0)))]))) 0 eX3_init_25 fpf_3_20 rfl ⟨rfl, rfl⟩ (Nat.le_of_ble_eq_true rfl) rfl ?_
  refine q_Kaload_n 0 eX3_init_28 rfl rfl ?_
  refine q_Kiconst eX3_init_29 kiconst_3 ?_
  refine q_Knewi (N := 3) (ty := .int) 0 eX3_init_30 rfl rfl ra_int ac_int (fun cA => vp_int cA 3) (by decide) (by decide) (Nat.le_of_ble_eq_true rfl) (Nat.le_of_ble_eq_true rfl) (Nat.le_of_ble_eq_true rfl) (fun q4 => ?_)
  refine q_KputF (ws' := ((h0, .inr (3, [.null, .null, .null, .null, .ref q1, .ref q2, .ref q3, .ref q4, .null, .int 0, .int 0, .int 0])) :: (((([] ++ [(q1, .inl (X.2.1 0, 8, .inl (fun _ => 0)))]) ++ [(q2, .inl (X.2.1 0, 8, .inl (fun _ => 0)))]) ++ [(q3, .inl (X.2.1 0, 8, .inl (fun _ => 0)))]) ++ [(q4, .inl (X.2.1 0, 3, .inl (fun _ => 0)))]))) 0 eX3_init_32 fpf_3_23 rfl ⟨rfl, rfl⟩ (Nat.le_of_ble_eq_true rfl) rfl ?_
  refine q_Kaload_n 0 eX3_init_35 rfl rfl ?_
  refine q_Kiconst eX3_init_36 kiconst_3 ?_
  refine q_Knewi (N := 3) (ty := .int) 0 eX3_init_37 rfl rfl ra_int ac_int (fun cA => vp_int cA 3) (by decide) (by decide) (Nat.le_of_ble_eq_true rfl) (Nat.le_of_ble_eq_true rfl) (Nat.le_of_ble_eq_true rfl) (fun q5 => ?_)
  refine q_KputF (ws' := ((h0, .inr (3, [.null, .null, .null, .null, .ref q1, .ref q2, .ref q3, .ref q4, .ref q5, .int 0, .int 0, .int 0])) :: ((((([] ++ [(q1, .inl (X.2.1 0, 8, .inl (fun _ => 0)))]) ++ [(q2, .inl (X.2.1 0, 8, .inl (fun _ => 0)))]) ++ [(q3, .inl (X.2.1 0, 8, .inl (fun _ => 0)))]) ++ [(q4, .inl (X.2.1 0, 3, .inl (fun _ => 0)))]) ++ [(q5, .inl (X.2.1 0, 3, .inl (fun _ => 0)))]))) 0 eX3_init_39 fpf_3_26 rfl ⟨rfl, rfl⟩ (Nat.le_of_ble_eq_true rfl) rfl ?_
  refine q_Kaload_n 0 eX3_init_42 rfl rfl ?_
  refine q_Kaload_n 1 eX3_init_43 rfl rfl ?_
  refine q_KputF (ws' := ((h0, .inr (3, [.ref a1, .null, .null, .null, .ref q1, .ref q2, .ref q3, .ref q4, .ref q5, .int 0, .int 0, .int 0])) :: ((((([] ++ [(q1, .inl (X.2.1 0, 8, .inl (fun _ => 0)))]) ++ [(q2, .inl (X.2.1 0, 8, .inl (fun _ => 0)))]) ++ [(q3, .inl (X.2.1 0, 8, .inl (fun _ => 0)))]) ++ [(q4, .inl (X.2.1 0, 3, .inl (fun _ => 0)))]) ++ [(q5, .inl (X.2.1 0, 3, .inl (fun _ => 0)))]))) 0 eX3_init_44 fpf_3_29 rfl ⟨rfl, rfl⟩ (Nat.le_of_ble_eq_true rfl) rfl ?_
  refine q_Kaload_n 0 eX3_init_47 rfl rfl ?_
  refine q_Kaload_n 2 eX3_init_48 rfl rfl ?_
  refine q_KputF (ws' := ((h0, .inr (3, [.ref a1, .ref a2, .null, .null, .ref q1, .ref q2, .ref q3, .ref q4, .ref q5, .int 0, .int 0, .int 0])) :: ((((([] ++ [(q1, .inl (X.2.1 0, 8, .inl (fun _ => 0)))]) ++ [(q2, .inl (X.2.1 0, 8, .inl (fun _ => 0)))]) ++ [(q3, .inl (X.2.1 0, 8, .inl (fun _ => 0)))]) ++ [(q4, .inl (X.2.1 0, 3, .inl (fun _ => 0)))]) ++ [(q5, .inl (X.2.1 0, 3, .inl (fun _ => 0)))]))) 0 eX3_init_49 fpf_3_33 rfl ⟨rfl, rfl⟩ (Nat.le_of_ble_eq_true rfl) rfl ?_
  refine q_Kaload_n 0 eX3_init_52 rfl rfl ?_
  refine q_Kaload_n 3 eX3_init_53 rfl rfl ?_
  refine q_KputF (ws' := ((h0, .inr (3, [.ref a1, .ref a2, .ref a3, .null, .ref q1, .ref q2, .ref q3, .ref q4, .ref q5, .int 0, .int 0, .int 0])) :: ((((([] ++ [(q1, .inl (X.2.1 0, 8, .inl (fun _ => 0)))]) ++ [(q2, .inl (X.2.1 0, 8, .inl (fun _ => 0)))]) ++ [(q3, .inl (X.2.1 0, 8, .inl (fun _ => 0)))]) ++ [(q4, .inl (X.2.1 0, 3, .inl (fun _ => 0)))]) ++ [(q5, .inl (X.2.1 0, 3, .inl (fun _ => 0)))]))) 0 eX3_init_54 fpf_3_37 rfl ⟨rfl, rfl⟩ (Nat.le_of_ble_eq_true rfl) rfl ?_
  refine q_Kaload_n 0 eX3_init_57 rfl rfl ?_
  refine q_Kaload 4 eX3_init_58 rfl ?_
  refine q_KputF (ws' := ((h0, .inr (3, [.ref a1, .ref a2, .ref a3, .ref a4, .ref q1, .ref q2, .ref q3, .ref q4, .ref q5, .int 0, .int 0, .int 0])) :: ((((([] ++ [(q1, .inl (X.2.1 0, 8, .inl (fun _ => 0)))]) ++ [(q2, .inl (X.2.1 0, 8, .inl (fun _ => 0)))]) ++ [(q3, .inl (X.2.1 0, 8, .inl (fun _ => 0)))]) ++ [(q4, .inl (X.2.1 0, 3, .inl (fun _ => 0)))]) ++ [(q5, .inl (X.2.1 0, 3, .inl (fun _ => 0)))]))) 0 eX3_init_60 fpf_3_41 rfl ⟨rfl, rfl⟩ (Nat.le_of_ble_eq_true rfl) rfl ?_
  exact q_Kret eX3_init_63 rfl (Nat.le_of_ble_eq_true rfl) (Nat.le_of_ble_eq_true rfl) ⟨q1, q2, q3, q4, q5, rfl⟩
