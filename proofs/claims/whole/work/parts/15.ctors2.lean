theorem tb_309 : Cond.methodLink RX7 3 objectInit ∈ q_tb := ch_1 _ (List.mem_of_getElem? (i := 186) rfl) rfl
theorem ol_7_3 : Cond.methodLink RX7 3 objectInit ∈ q_tb := tb_309
theorem fpf_7_9 : q_FPF RX7 9 7 0 (.array .long) := ⟨by decide, RX7, TX7, 6, tyX7, rfl, rfl, by decide, uX7, tb_359, tyX7_ok, nmX7, rfl, rfl, by decide +kernel⟩
theorem fpf_7_13 : q_FPF RX7 13 7 1 (.array .int) := ⟨by decide, RX7, TX7, 6, tyX7, rfl, rfl, by decide, uX7, tb_360, tyX7_ok, nmX7, rfl, rfl, by decide +kernel⟩
theorem fpf_7_17 : q_FPF RX7 17 7 2 (.array .int) := ⟨by decide, RX7, TX7, 6, tyX7, rfl, rfl, by decide, uX7, tb_361, tyX7_ok, nmX7, rfl, rfl, by decide +kernel⟩
theorem fpf_7_20 : q_FPF RX7 20 7 3 (.array .long) := ⟨by decide, RX7, TX7, 6, tyX7, rfl, rfl, by decide, uX7, tb_362, tyX7_ok, nmX7, rfl, rfl, by decide +kernel⟩
set_option maxHeartbeats 4000000 in
set_option maxRecDepth 100000 in
theorem nX7_init (X : q_X) (l : Launch) (h0 : Nat) : q_KC X l mX7_init 4 4 1518 h0 [] 7 [.null, .null, .null, .null, .int 0, .long 0] (fun ws => ∃ q1 q2 q3 q4 : Nat, ws = wwX7_init X h0 q1 q2 q3 q4) := by
  refine q_Kintro (lv := [(0, .ref h0)]) (by decide +kernel) rfl rfl (Nat.le_of_ble_eq_true rfl) rfl ?_
  refine q_Kaload_n 0 eX7_init_0 rfl rfl ?_
  refine q_Kobj eX7_init_1 ol_7_3 oi_1 oi_2 (by decide) (Nat.le_of_ble_eq_true rfl) ?_
  refine q_Kaload_n 0 eX7_init_4 rfl rfl ?_
  refine q_Kbipush eX7_init_5 kbipush_15 ?_
  refine q_Knewl (N := 15) eX7_init_7 ac_long (by decide) (by decide) (Nat.le_of_ble_eq_true rfl) (Nat.le_of_ble_eq_true rfl) (Nat.le_of_ble_eq_true rfl) (fun q1 => ?_)
  refine q_KputF (ws' := ((h0, .inr (7, [.ref q1, .null, .null, .null, .int 0, .long 0])) :: ([] ++ [(q1, .inl (X.2.1 3, 15, .inr (.inl (fun _ => 0))))]))) 0 eX7_init_9 fpf_7_9 rfl ⟨rfl, rfl⟩ (Nat.le_of_ble_eq_true rfl) rfl ?_
  refine q_Kaload_n 0 eX7_init_12 rfl rfl ?_
  refine q_Ksipush eX7_init_13 ksipush_501 ?_
  refine q_Knewi (N := 501) (ty := .int) 0 eX7_init_16 rfl rfl ra_int ac_int (fun cA => vp_int cA 501) (by decide) (by decide) (Nat.le_of_ble_eq_true rfl) (Nat.le_of_ble_eq_true rfl) (Nat.le_of_ble_eq_true rfl) (fun q2 => ?_)
  refine q_KputF (ws' := ((h0, .inr (7, [.ref q1, .ref q2, .null, .null, .int 0, .long 0])) :: (([] ++ [(q1, .inl (X.2.1 3, 15, .inr (.inl (fun _ => 0))))]) ++ [(q2, .inl (X.2.1 0, 501, .inl (fun _ => 0)))]))) 0 eX7_init_18 fpf_7_13 rfl ⟨rfl, rfl⟩ (Nat.le_of_ble_eq_true rfl) rfl ?_
  refine q_Kaload_n 0 eX7_init_21 rfl rfl ?_
  refine q_Ksipush eX7_init_22 ksipush_501 ?_
  refine q_Knewi (N := 501) (ty := .int) 0 eX7_init_25 rfl rfl ra_int ac_int (fun cA => vp_int cA 501) (by decide) (by decide) (Nat.le_of_ble_eq_true rfl) (Nat.le_of_ble_eq_true rfl) (Nat.le_of_ble_eq_true rfl) (fun q3 => ?_)
  refine q_KputF (ws' := ((h0, .inr (7, [.ref q1, .ref q2, .ref q3, .null, .int 0, .long 0])) :: ((([] ++ [(q1, .inl (X.2.1 3, 15, .inr (.inl (fun _ => 0))))]) ++ [(q2, .inl (X.2.1 0, 501, .inl (fun _ => 0)))]) ++ [(q3, .inl (X.2.1 0, 501, .inl (fun _ => 0)))]))) 0 eX7_init_27 fpf_7_17 rfl ⟨rfl, rfl⟩ (Nat.le_of_ble_eq_true rfl) rfl ?_
  refine q_Kaload_n 0 eX7_init_30 rfl rfl ?_
  refine q_Ksipush eX7_init_31 ksipush_501 ?_
  refine q_Knewl (N := 501) eX7_init_34 ac_long (by decide) (by decide) (Nat.le_of_ble_eq_true rfl) (Nat.le_of_ble_eq_true rfl) (Nat.le_of_ble_eq_true rfl) (fun q4 => ?_)
  refine q_KputF (ws' := ((h0, .inr (7, [.ref q1, .ref q2, .ref q3, .ref q4, .int 0, .long 0])) :: (((([] ++ [(q1, .inl (X.2.1 3, 15, .inr (.inl (fun _ => 0))))]) ++ [(q2, .inl (X.2.1 0, 501, .inl (fun _ => 0)))]) ++ [(q3, .inl (X.2.1 0, 501, .inl (fun _ => 0)))]) ++ [(q4, .inl (X.2.1 3, 501, .inr (.inl (fun _ => 0))))]))) 0 eX7_init_36 fpf_7_20 rfl ⟨rfl, rfl⟩ (Nat.le_of_ble_eq_true rfl) rfl ?_
  refine q_Kiconst eX7_init_39 kiconst_0 ?_
  refine q_Kistore_n (lv' := [(1, .int 0), (0, .ref h0)]) eX7_init_40 rfl (by decide) rfl ?_
  refine q_Klconst (v := 0) eX7_init_41 rfl ?_
  refine q_Klstore_n (lv' := [(2, .long 0), (1, .int 0), (0, .ref h0)]) eX7_init_42 rfl (by decide) rfl ?_
  refine q_Kiconst eX7_init_43 kiconst_0 ?_
  refine q_Kistore (lv' := [(4, .int 0), (2, .long 0), (1, .int 0), (0, .ref h0)]) eX7_init_44 (by decide) rfl ?_
  exact nX7_loop X l h0 q1 q2 q3 q4 62 0 (by omega) (by omega)
def q_f3 (X : q_X) (q1 q2 q3 : Nat) : Nat → Nat := fun k => if k = 0 then q1 else if k = 1 then q2 else if k = 2 then q3 else X.2.2 k
theorem q_f3_ge (X : q_X) (q1 q2 q3 : Nat) : ∀ k, 1000 ≤ k → q_f3 X q1 q2 q3 k = X.2.2 k := by
  intro k hk
  unfold q_f3
  rw [if_neg (by omega), if_neg (by omega), if_neg (by omega)]
def q_wc0 : q_W := (fun a b => if a = 0 ∧ b = 3 then 480 else 0, fun _ _ => 0, fun _ _ => 0)
def q_wc1 : q_W := (fun a b => if a = 0 ∧ b = 3 then 120 else 0, fun _ _ => 0, fun _ _ => 0)
theorem clr : fX6_clear_w 120 q_wc0 = some ((), q_wc1) := by
  have h : q_imin (0 + q_imax 120 0) 480 = 120 := by decide
  show some ((), q_sI (q_sI q_wc0 0 2 0) 0 3 (q_imin ((q_sI q_wc0 0 2 0).1 0 2 + q_imax 120 0) 480)) = _
  have h0 : (q_sI q_wc0 0 2 0).1 0 2 = 0 := rfl
  rw [h0, h]
  congr 2
  unfold q_sI q_wc0 q_wc1
  congr 1
  funext a b
  by_cases h1 : a = 0
  · subst h1
    by_cases h2 : b = 3
    · subst h2; rfl
    · by_cases h3 : b = 2
      · subst h3; rfl
      · simp [h2, h3]
  · simp [h1]
def q_morev (a0 : Int64) (a2 : Int32) : Int64 := if a2 = 0 then a0 else if 57 < a2 then (37 * a0) + (Int32.toInt64 ((a2 - 97) + 1)) else (37 * a0) + (Int32.toInt64 ((a2 - 48) + 27))
theorem morev_ok (a0 : Int64) (a2 : Int32) (w : q_W) : fX11_more_g a0 a2 w = some (q_morev a0 a2, w) := by
  unfold fX11_more_g q_morev
  split
  · rfl
  · split <;> rfl
def q_wordv (a b c d e f g : Int32) : Int64 := q_morev (q_morev (q_morev (q_morev (q_morev (q_morev (q_morev 0 a) b) c) d) e) f) g
theorem wordv_ok (a b c d e f g : Int32) (w : q_W) : fX11_word_g a b c d e f g w = some (q_wordv a b c d e f g, w) := by
  simp only [fX11_word_g, morev_ok, q_b, q_wordv]
theorem tb_169 : Cond.methodLink RX2 3 objectInit ∈ q_tb := ch_1 _ (List.mem_of_getElem? (i := 46) rfl) rfl
theorem ol_2_3 : Cond.methodLink RX2 3 objectInit ∈ q_tb := tb_169
theorem tb_170 : Cond.classLink RX2 9 RX6 ∈ q_tb := ch_1 _ (List.mem_of_getElem? (i := 47) rfl) rfl
theorem tb_171 : Cond.instantiable RX6 4 ∈ q_tb := ch_1 _ (List.mem_of_getElem? (i := 48) rfl) rfl
theorem nw_2_9 : q_NW RX2 9 6 [.null, .null, .int 0, .int 0] := ⟨RX6, TX6, 4, tyX6, rfl, rfl, uX6, tyX6_ok, tb_170, tb_171, tb_127, fun j hj => by rcases (show j = 0 ∨ j = 1 ∨ j = 2 ∨ j = 3 by omega) with rfl | rfl | rfl | rfl <;> rfl⟩
theorem tb_173 : Cond.instanceMethod mX6_init.2.1 ∈ q_tb := ch_1 _ (List.mem_of_getElem? (i := 50) rfl) rfl
theorem tb_174 : Cond.code mX6_init.2.1 mX6_init.2.2.1 mX6_init.2.2.2.1 mX6_init.2.2.2.2 ∈ q_tb := ch_1 _ (List.mem_of_getElem? (i := 51) rfl) rfl
theorem ci_2_11 : q_CI RX2 11 mX6_init 0 := ⟨Or.inr (List.mem_of_getElem? (i := 1) rfl), rfl, rfl, tb_173, tb_127, tb_174, ⟨by decide +kernel, by decide +kernel, by decide +kernel⟩, by decide⟩
theorem fpf_2_12 : q_FPF RX2 12 2 0 (.object "MarbleBath$Rows") := ⟨by decide, RX2, TX2, 3, tyX2, rfl, rfl, by decide, uX2, tb_204, tyX2_ok, nmX2, rfl, rfl, by decide +kernel⟩
theorem fpf_2_18 : q_FPF RX2 18 2 1 (.array .boolean) := ⟨by decide, RX2, TX2, 3, tyX2, rfl, rfl, by decide, uX2, tb_205, tyX2_ok, nmX2, rfl, rfl, by decide +kernel⟩
theorem fpf_2_22 : q_FPF RX2 22 2 2 (.array .int) := ⟨by decide, RX2, TX2, 3, tyX2, rfl, rfl, by decide, uX2, tb_206, tyX2_ok, nmX2, rfl, rfl, by decide +kernel⟩
def wwX2_init (X : q_X) (h0 q1 q2 q3 q4 q5 : Nat) : va_W := [(h0, .inr (2, [.ref q1, .ref q4, .ref q5])),
  (q4, .inl (X.2.1 2, 120, .inl (fun _ => 0))),
  (q5, .inl (X.2.1 0, 6, .inl (fun _ => 0))),
  (q1, .inr (6, [.ref q2, .ref q3, .int 0, .int 120])),
  (q2, .inl (X.2.1 0, 480, .inl (fun _ => 0))),
  (q3, .inl (X.2.1 0, 2880, .inl (fun _ => 0)))]
set_option maxHeartbeats 4000000 in
set_option maxRecDepth 100000 in
theorem nX2_init (X : q_X) (l : Launch) (h0 : Nat) : q_KC X l mX2_init 3 5 3490 h0 [] 2 [.null, .null, .null] (fun ws => ∃ q1 q2 q3 q4 q5 : Nat, ws = wwX2_init X h0 q1 q2 q3 q4 q5) := by
  refine q_Kintro (lv := [(0, .ref h0)]) (by decide +kernel) rfl rfl (Nat.le_of_ble_eq_true rfl) rfl ?_
  refine q_Kaload_n 0 eX2_init_0 rfl rfl ?_
  refine q_Kobj eX2_init_1 ol_2_3 oi_1 oi_2 (by decide) (Nat.le_of_ble_eq_true rfl) ?_
  refine q_Kaload_n 0 eX2_init_4 rfl rfl ?_
  refine q_Knew (N := 4) eX2_init_5 nw_2_9 rfl (Nat.le_of_ble_eq_true rfl) (Nat.le_of_ble_eq_true rfl) (fun q1 => ?_)
  refine q_Kdup eX2_init_8 rfl ?_
  refine q_Kcall2 (wr := ((h0, .inr (2, [.null, .null, .null])) :: [])) (As := []) (st := [.ref q1, .ref h0]) eX2_init_9 ci_2_11 (nX6_init X l q1) rfl rfl (Nat.le_of_ble_eq_true rfl) (by decide) (Nat.le_of_ble_eq_true rfl) (Nat.le_of_ble_eq_true rfl) (fun w1 hp => ?_)
  obtain ⟨q2, q3, rfl⟩ := hp
  refine q_KputF (ws' := ((h0, .inr (2, [.ref q1, .null, .null])) :: ([] ++ wwX6_init X q1 q2 q3))) 0 eX2_init_12 fpf_2_12 rfl ⟨rfl, rfl⟩ (Nat.le_of_ble_eq_true rfl) rfl ?_
  refine q_Kaload_n 0 eX2_init_15 rfl rfl ?_
  refine q_Kbipush eX2_init_16 kbipush_120 ?_
  refine q_Knewi (N := 120) (ty := .boolean) 2 eX2_init_18 rfl rfl ra_bool ac_boolean (fun cA => vp_bool cA 120) (by decide) (by decide) (Nat.le_of_ble_eq_true rfl) (Nat.le_of_ble_eq_true rfl) (Nat.le_of_ble_eq_true rfl) (fun q4 => ?_)
  refine q_KputF (ws' := ((h0, .inr (2, [.ref q1, .ref q4, .null])) :: (([] ++ wwX6_init X q1 q2 q3) ++ [(q4, .inl (X.2.1 2, 120, .inl (fun _ => 0)))]))) 0 eX2_init_20 fpf_2_18 rfl ⟨rfl, rfl⟩ (Nat.le_of_ble_eq_true rfl) rfl ?_
  refine q_Kaload_n 0 eX2_init_23 rfl rfl ?_
  refine q_Kbipush eX2_init_24 kbipush_6 ?_
  refine q_Knewi (N := 6) (ty := .int) 0 eX2_init_26 rfl rfl ra_int ac_int (fun cA => vp_int cA 6) (by decide) (by decide) (Nat.le_of_ble_eq_true rfl) (Nat.le_of_ble_eq_true rfl) (Nat.le_of_ble_eq_true rfl) (fun q5 => ?_)
  refine q_KputF (ws' := ((h0, .inr (2, [.ref q1, .ref q4, .ref q5])) :: ((([] ++ wwX6_init X q1 q2 q3) ++ [(q4, .inl (X.2.1 2, 120, .inl (fun _ => 0)))]) ++ [(q5, .inl (X.2.1 0, 6, .inl (fun _ => 0)))]))) 0 eX2_init_28 fpf_2_22 rfl ⟨rfl, rfl⟩ (Nat.le_of_ble_eq_true rfl) rfl ?_
  refine q_Kaload_n 0 eX2_init_31 rfl rfl ?_
  refine q_Kget 0 eX2_init_32 fl_2_12 rfl rfl ?_
  refine q_Kbipush eX2_init_35 kbipush_120 ?_
  refine q_KcallW (wr := [(h0, .inr (2, [.ref q1, .ref q4, .ref q5])), (q4, .inl (X.2.1 2, 120, .inl (fun _ => 0))), (q5, .inl (X.2.1 0, 6, .inl (fun _ => 0)))]) (q_f3 X q1 q2 q3) q_wc0 q_wc1 [1, 2, 3] [0, 4, 5] eX2_init_37 cv_2_26 (by rw [← clr]; exact kX6_clear_w (X.1, X.2.1, q_f3 X q1 q2 q3) l 120 q_wc0) (q_f3_ge X q1 q2 q3) rfl rfl rfl (by decide) (by decide) (by decide) rfl rfl (Nat.le_of_ble_eq_true rfl) (by decide) (Nat.le_of_ble_eq_true rfl) (Nat.le_of_ble_eq_true rfl) ?_
  exact q_Kret eX2_init_40 rfl (Nat.le_of_ble_eq_true rfl) (Nat.le_of_ble_eq_true rfl) ⟨q1, q2, q3, q4, q5, rfl⟩
theorem tb_303 : Cond.methodLink RX5 5 objectInit ∈ q_tb := ch_1 _ (List.mem_of_getElem? (i := 180) rfl) rfl
theorem ol_5_5 : Cond.methodLink RX5 5 objectInit ∈ q_tb := tb_303
theorem tb_304 : Cond.classLink RX5 1 RX7 ∈ q_tb := ch_1 _ (List.mem_of_getElem? (i := 181) rfl) rfl
theorem tb_305 : Cond.instantiable RX7 6 ∈ q_tb := ch_1 _ (List.mem_of_getElem? (i := 182) rfl) rfl
theorem nw_5_1 : q_NW RX5 1 7 [.null, .null, .null, .null, .int 0, .long 0] := ⟨RX7, TX7, 6, tyX7, rfl, rfl, uX7, tyX7_ok, tb_304, tb_305, tb_133, fun j hj => by rcases (show j = 0 ∨ j = 1 ∨ j = 2 ∨ j = 3 ∨ j = 4 ∨ j = 5 by omega) with rfl | rfl | rfl | rfl | rfl | rfl <;> rfl⟩
theorem tb_306 : Cond.methodLink RX5 11 mX7_init.2.1 ∈ q_tb := ch_1 _ (List.mem_of_getElem? (i := 183) rfl) rfl
theorem tb_307 : Cond.instanceMethod mX7_init.2.1 ∈ q_tb := ch_1 _ (List.mem_of_getElem? (i := 184) rfl) rfl
theorem tb_308 : Cond.code mX7_init.2.1 mX7_init.2.2.1 mX7_init.2.2.2.1 mX7_init.2.2.2.2 ∈ q_tb := ch_1 _ (List.mem_of_getElem? (i := 185) rfl) rfl
theorem ci_5_11 : q_CI RX5 11 mX7_init 0 := ⟨Or.inl tb_306, rfl, rfl, tb_307, tb_133, tb_308, ⟨by decide +kernel, by decide +kernel, by decide +kernel⟩, by decide⟩
theorem fpf_5_12 : q_FPF RX5 12 5 0 (.object "MarbleBath$Scanner") := ⟨by decide, RX5, TX5, 12, tyX5, rfl, rfl, by decide, uX5, tb_379, tyX5_ok, nmX5, rfl, rfl, by decide +kernel⟩
theorem fpf_5_20 : q_FPF RX5 20 5 1 (.array .long) := ⟨by decide, RX5, TX5, 12, tyX5, rfl, rfl, by decide, uX5, tb_380, tyX5_ok, nmX5, rfl, rfl, by decide +kernel⟩
theorem fpf_5_26 : q_FPF RX5 26 5 2 (.array .long) := ⟨by decide, RX5, TX5, 12, tyX5, rfl, rfl, by decide, uX5, tb_381, tyX5_ok, nmX5, rfl, rfl, by decide +kernel⟩
def wwX5_init (X : q_X) (h0 q1 q2 q3 q4 q5 q6 q7 a1 : Nat) : va_W := [(h0, .inr (5, [.ref q1, .ref q6, .ref q7, .int 0, .int 0, .int 0, .int 0, .int 0, .int 0, .int 0, .int 0, .ref a1])),
  (q1, .inr (7, [.ref q2, .ref q3, .ref q4, .ref q5, .int 0, .long 0])),
  (q2, .inl (X.2.1 3, 15, .inr (.inl (q_scn 61).1))),
  (q3, .inl (X.2.1 0, 501, .inl (fun _ => 0))),
  (q4, .inl (X.2.1 0, 501, .inl (fun _ => 0))),
  (q5, .inl (X.2.1 3, 501, .inr (.inl (fun _ => 0)))),
  (q6, .inl (X.2.1 3, 8, .inr (.inl (fun _ => 0)))),
  (q7, .inl (X.2.1 3, 8, .inr (.inl (fun _ => 0))))]
set_option maxHeartbeats 4000000 in
set_option maxRecDepth 100000 in
theorem nX5_init (X : q_X) (l : Launch) (h0 a1 : Nat) : q_KC X l mX5_init 5 7 1540 h0 [.ref a1] 5 [.null, .null, .null, .int 0, .int 0, .int 0, .int 0, .int 0, .int 0, .int 0, .int 0, .null] (fun ws => ∃ q1 q2 q3 q4 q5 q6 q7 : Nat, ws = wwX5_init X h0 q1 q2 q3 q4 q5 q6 q7 a1) := by
  refine q_Kintro (lv := [(0, .ref h0), (1, .ref a1)]) (by decide +kernel) rfl rfl (Nat.le_of_ble_eq_true rfl) rfl ?_
  refine q_Kaload_n 0 eX5_init_0 rfl rfl ?_
  refine q_Kobj eX5_init_1 ol_5_5 oi_1 oi_2 (by decide) (Nat.le_of_ble_eq_true rfl) ?_
  refine q_Kaload_n 0 eX5_init_4 rfl rfl ?_
  refine q_Knew (N := 6) eX5_init_5 nw_5_1 rfl (Nat.le_of_ble_eq_true rfl) (Nat.le_of_ble_eq_true rfl) (fun q1 => ?_)
  refine q_Kdup eX5_init_8 rfl ?_
  refine q_Kcall2 (wr := ((h0, .inr (5, [.null, .null, .null, .int 0, .int 0, .int 0, .int 0, .int 0, .int 0, .int 0, .int 0, .null])) :: [])) (As := []) (st := [.ref q1, .ref h0]) eX5_init_9 ci_5_11 (nX7_init X l q1) rfl rfl (Nat.le_of_ble_eq_true rfl) (by decide) (Nat.le_of_ble_eq_true rfl) (Nat.le_of_ble_eq_true rfl) (fun w1 hp => ?_)
  obtain ⟨q2, q3, q4, q5, rfl⟩ := hp
  refine q_KputF (ws' := ((h0, .inr (5, [.ref q1, .null, .null, .int 0, .int 0, .int 0, .int 0, .int 0, .int 0, .int 0, .int 0, .null])) :: ([] ++ wwX7_init X q1 q2 q3 q4 q5))) 0 eX5_init_12 fpf_5_12 rfl ⟨rfl, rfl⟩ (Nat.le_of_ble_eq_true rfl) rfl ?_
  refine q_Kaload_n 0 eX5_init_15 rfl rfl ?_
  refine q_Kbipush eX5_init_16 kbipush_8 ?_
  refine q_Knewl (N := 8) eX5_init_18 ac_long (by decide) (by decide) (Nat.le_of_ble_eq_true rfl) (Nat.le_of_ble_eq_true rfl) (Nat.le_of_ble_eq_true rfl) (fun q6 => ?_)
  refine q_KputF (ws' := ((h0, .inr (5, [.ref q1, .ref q6, .null, .int 0, .int 0, .int 0, .int 0, .int 0, .int 0, .int 0, .int 0, .null])) :: (([] ++ wwX7_init X q1 q2 q3 q4 q5) ++ [(q6, .inl (X.2.1 3, 8, .inr (.inl (fun _ => 0))))]))) 0 eX5_init_20 fpf_5_20 rfl ⟨rfl, rfl⟩ (Nat.le_of_ble_eq_true rfl) rfl ?_
  refine q_Kaload_n 0 eX5_init_23 rfl rfl ?_
  refine q_Kbipush eX5_init_24 kbipush_8 ?_
  refine q_Knewl (N := 8) eX5_init_26 ac_long (by decide) (by decide) (Nat.le_of_ble_eq_true rfl) (Nat.le_of_ble_eq_true rfl) (Nat.le_of_ble_eq_true rfl) (fun q7 => ?_)
  refine q_KputF (ws' := ((h0, .inr (5, [.ref q1, .ref q6, .ref q7, .int 0, .int 0, .int 0, .int 0, .int 0, .int 0, .int 0, .int 0, .null])) :: ((([] ++ wwX7_init X q1 q2 q3 q4 q5) ++ [(q6, .inl (X.2.1 3, 8, .inr (.inl (fun _ => 0))))]) ++ [(q7, .inl (X.2.1 3, 8, .inr (.inl (fun _ => 0))))]))) 0 eX5_init_28 fpf_5_26 rfl ⟨rfl, rfl⟩ (Nat.le_of_ble_eq_true rfl) rfl ?_
  refine q_Kaload_n 0 eX5_init_31 rfl rfl ?_
  refine q_Kaload_n 1 eX5_init_32 rfl rfl ?_
  refine q_Kput (ws' := ((h0, .inr (5, [.ref q1, .ref q6, .ref q7, .int 0, .int 0, .int 0, .int 0, .int 0, .int 0, .int 0, .int 0, .ref a1])) :: ((([] ++ wwX7_init X q1 q2 q3 q4 q5) ++ [(q6, .inl (X.2.1 3, 8, .inr (.inl (fun _ => 0))))]) ++ [(q7, .inl (X.2.1 3, 8, .inr (.inl (fun _ => 0))))]))) 0 eX5_init_33 fp_5_29 rfl ⟨rfl, rfl⟩ (Nat.le_of_ble_eq_true rfl) rfl ?_
  exact q_Kret eX5_init_36 rfl (Nat.le_of_ble_eq_true rfl) (Nat.le_of_ble_eq_true rfl) ⟨q1, q2, q3, q4, q5, q6, q7, rfl⟩
