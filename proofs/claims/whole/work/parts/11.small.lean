/-! for the constructors: a row object alone, methods with no world at all (printed by program) -/
abbrev S_0 : q_S := (0, fun _ => 999, fun _ => 0, fun _ _ => 0)
def cW (q : Nat) : Nat := ([6, 100, 100] : List Nat).getD q 999
def lW (q : Nat) : Nat := ([0, 480, 2880] : List Nat).getD q 0
def fW (q k : Nat) : Nat := (([[1, 2], [], []] : List (List Nat)).getD q []).getD k 0
abbrev S_W : q_S := (3, cW, lW, fW)
theorem tW_0 : S_W.2.1 0 = 6 := rfl
theorem gW_0_0 : S_W.2.2.2 0 0 = 1 := rfl
theorem gW_0_1 : S_W.2.2.2 0 1 = 2 := rfl
theorem tW_1 : S_W.2.1 1 = 100 := rfl
theorem nW_1 : S_W.2.2.1 1 = 480 := rfl
theorem tW_2 : S_W.2.1 2 = 100 := rfl
theorem nW_2 : S_W.2.2.1 2 = 2880 := rfl
def fX6_allow_w (a1 : Int32) (w : q_W) : Option (Unit × q_W) :=
  q_lt (q_sI w 0 3 (q_imin ((w.1 0 2) + (q_imax a1 0)) 480)) fun w1 =>
  some ((), w1)
set_option maxHeartbeats 4000000 in
set_option maxRecDepth 100000 in
theorem kX6_allow_w (X : q_X) (l : Launch) (a1 : Int32) (w : q_W) : q_Ct X S_W l mX6_allow 1 q_tV [.ref 0, .int a1] w (fX6_allow_w a1 w) := by
  refine q_intro (lv := [(0, .ref 0), (1, .int a1)]) (by decide +kernel) rfl (Nat.le_of_ble_eq_true rfl) rfl ?_
  refine q_aload_n 0 eX6_allow_0 rfl rfl ?_
  refine q_aload_n 0 eX6_allow_1 rfl rfl ?_
  refine q_getI eX6_allow_2 fl_6_22 tW_0 rfl ?_
  refine q_iload_n 1 eX6_allow_5 rfl rfl ?_
  refine q_iconst eX6_allow_6 kiconst_0 ?_
  refine q_mmax eX6_allow_7 cv_6_29 (Nat.le_of_ble_eq_true rfl) (by decide) ?_
  refine q_iadd eX6_allow_10 ?_
  refine q_sipush eX6_allow_11 ksipush_480 ?_
  refine q_mmin eX6_allow_14 cv_6_35 (Nat.le_of_ble_eq_true rfl) (by decide) ?_
  refine q_putI eX6_allow_17 fp_6_18 tW_0 rfl ⟨rfl, rfl⟩ ?_
  refine q_ltW (fun w1 => ?_)
  exact q_return eX6_allow_20 rfl
def fX6_clear_w (a1 : Int32) (w : q_W) : Option (Unit × q_W) :=
  q_lt (q_sI w 0 2 0) fun w1 =>
  q_b (fX6_allow_w a1 w1) fun r2 w3 =>
  some ((), w3)
set_option maxHeartbeats 4000000 in
set_option maxRecDepth 100000 in
theorem kX6_clear_w (X : q_X) (l : Launch) (a1 : Int32) (w : q_W) : q_Ct X S_W l mX6_clear 2 q_tV [.ref 0, .int a1] w (fX6_clear_w a1 w) := by
  refine q_intro (lv := [(0, .ref 0), (1, .int a1)]) (by decide +kernel) rfl (Nat.le_of_ble_eq_true rfl) rfl ?_
  refine q_aload_n 0 eX6_clear_0 rfl rfl ?_
  refine q_iconst eX6_clear_1 kiconst_0 ?_
  refine q_putI eX6_clear_2 fp_6_22 tW_0 rfl ⟨rfl, rfl⟩ ?_
  refine q_ltW (fun w1 => ?_)
  refine q_aload_n 0 eX6_clear_5 rfl rfl ?_
  refine q_iload_n 1 eX6_clear_6 rfl rfl ?_
  refine q_callVV (As := [.int a1]) (st := []) eX6_clear_7 cv_6_25 (kX6_allow_w X l a1 w1) tW_0 rfl (by decide) rfl rfl (Nat.le_of_ble_eq_true rfl) (by decide) (fun r2 w3 => ?_)
  exact q_return eX6_clear_10 rfl
def fX11_more_g (a0 : Int64) (a2 : Int32) (w : q_W) : Option (Int64 × q_W) :=
  if a2 = 0 then
    some (a0, w)
  else
    if 57 < a2 then
      some (((37 * a0) + (Int32.toInt64 ((a2 - 97) + 1))), w)
    else
      some (((37 * a0) + (Int32.toInt64 ((a2 - 48) + 27))), w)
set_option maxHeartbeats 4000000 in
set_option maxRecDepth 100000 in
theorem kX11_more_g (X : q_X) (l : Launch) (S : q_S) (a0 : Int64) (a2 : Int32) (w : q_W) : q_Ct X S l mX11_more 0 q_tL [.long a0, .int a2] w (fX11_more_g a0 a2 w) := by
  refine q_intro (lv := [(0, .long a0), (2, .int a2)]) (by decide +kernel) rfl (Nat.le_of_ble_eq_true rfl) rfl ?_
  refine q_iload_n 1 eX11_more_0 rfl rfl ?_
  refine q_if_ne (tgt := 8) eX11_more_1 (by decide) (fun _ => ?_) (fun _ => ?_)
  · refine q_lload_n 0 eX11_more_4 rfl rfl ?_
    refine q_goto (tgt := 37) eX11_more_5 (by decide) ?_
    exact q_lreturn eX11_more_37 rfl
  · refine q_ldc2 eX11_more_8 kc_11_145 ?_
    refine q_lload_n 0 eX11_more_11 rfl rfl ?_
    refine q_lmul eX11_more_12 ?_
    refine q_iload_n 1 eX11_more_13 rfl rfl ?_
    refine q_bipush eX11_more_14 kbipush_57 ?_
    refine q_icmp_gt (tgt := 29) eX11_more_16 (by decide) (fun _ => ?_) (fun _ => ?_)
    · refine q_iload_n 1 eX11_more_29 rfl rfl ?_
      refine q_bipush eX11_more_30 kbipush_97 ?_
      refine q_isub eX11_more_32 ?_
      refine q_iconst eX11_more_33 kiconst_1 ?_
      refine q_iadd eX11_more_34 ?_
      refine q_i2l eX11_more_35 ?_
      refine q_ladd eX11_more_36 ?_
      exact q_lreturn eX11_more_37 rfl
    · refine q_iload_n 1 eX11_more_19 rfl rfl ?_
      refine q_bipush eX11_more_20 kbipush_48 ?_
      refine q_isub eX11_more_22 ?_
      refine q_bipush eX11_more_23 kbipush_27 ?_
      refine q_iadd eX11_more_25 ?_
      refine q_goto (tgt := 35) eX11_more_26 (by decide) ?_
      refine q_i2l eX11_more_35 ?_
      refine q_ladd eX11_more_36 ?_
      exact q_lreturn eX11_more_37 rfl
def fX11_word_g (a0 : Int32) (a1 : Int32) (a2 : Int32) (a3 : Int32) (a4 : Int32) (a5 : Int32) (a6 : Int32) (w : q_W) : Option (Int64 × q_W) :=
  q_b (fX11_more_g 0 a0 w) fun r1 w2 =>
  q_b (fX11_more_g r1 a1 w2) fun r3 w4 =>
  q_b (fX11_more_g r3 a2 w4) fun r5 w6 =>
  q_b (fX11_more_g r5 a3 w6) fun r7 w8 =>
  q_b (fX11_more_g r7 a4 w8) fun r9 w10 =>
  q_b (fX11_more_g r9 a5 w10) fun r11 w12 =>
  q_b (fX11_more_g r11 a6 w12) fun r13 w14 =>
  some (r13, w14)
set_option maxHeartbeats 4000000 in
set_option maxRecDepth 100000 in
theorem kX11_word_g (X : q_X) (l : Launch) (S : q_S) (a0 : Int32) (a1 : Int32) (a2 : Int32) (a3 : Int32) (a4 : Int32) (a5 : Int32) (a6 : Int32) (w : q_W) : q_Ct X S l mX11_word 1 q_tL [.int a0, .int a1, .int a2, .int a3, .int a4, .int a5, .int a6] w (fX11_word_g a0 a1 a2 a3 a4 a5 a6 w) := by
  refine q_intro (lv := [(0, .int a0), (1, .int a1), (2, .int a2), (3, .int a3), (4, .int a4), (5, .int a5), (6, .int a6)]) (by decide +kernel) rfl (Nat.le_of_ble_eq_true rfl) rfl ?_
  refine q_lconst (v := 0) eX11_word_0 rfl ?_
  refine q_iload_n 0 eX11_word_1 rfl rfl ?_
  refine q_callSL (As := [.long 0, .int a0]) (st := []) eX11_word_2 cv_11_147 (kX11_more_g X l S 0 a0 w) rfl rfl (Nat.le_of_ble_eq_true rfl) (by decide) (fun r1 w2 => ?_)
  refine q_iload_n 1 eX11_word_5 rfl rfl ?_
  refine q_callSL (As := [.long r1, .int a1]) (st := []) eX11_word_6 cv_11_147 (kX11_more_g X l S r1 a1 w2) rfl rfl (Nat.le_of_ble_eq_true rfl) (by decide) (fun r3 w4 => ?_)
  refine q_iload_n 2 eX11_word_9 rfl rfl ?_
  refine q_callSL (As := [.long r3, .int a2]) (st := []) eX11_word_10 cv_11_147 (kX11_more_g X l S r3 a2 w4) rfl rfl (Nat.le_of_ble_eq_true rfl) (by decide) (fun r5 w6 => ?_)
  refine q_iload_n 3 eX11_word_13 rfl rfl ?_
  refine q_callSL (As := [.long r5, .int a3]) (st := []) eX11_word_14 cv_11_147 (kX11_more_g X l S r5 a3 w6) rfl rfl (Nat.le_of_ble_eq_true rfl) (by decide) (fun r7 w8 => ?_)
  refine q_iload 4 eX11_word_17 rfl ?_
  refine q_callSL (As := [.long r7, .int a4]) (st := []) eX11_word_19 cv_11_147 (kX11_more_g X l S r7 a4 w8) rfl rfl (Nat.le_of_ble_eq_true rfl) (by decide) (fun r9 w10 => ?_)
  refine q_iload 5 eX11_word_22 rfl ?_
  refine q_callSL (As := [.long r9, .int a5]) (st := []) eX11_word_24 cv_11_147 (kX11_more_g X l S r9 a5 w10) rfl rfl (Nat.le_of_ble_eq_true rfl) (by decide) (fun r11 w12 => ?_)
  refine q_iload 6 eX11_word_27 rfl ?_
  refine q_callSL (As := [.long r11, .int a6]) (st := []) eX11_word_29 cv_11_147 (kX11_more_g X l S r11 a6 w12) rfl rfl (Nat.le_of_ble_eq_true rfl) (by decide) (fun r13 w14 => ?_)
  exact q_lreturn eX11_word_32 rfl
def fJ0_isLatin1_aae02_s0 (w : q_W) : Option (Int32 × q_W) :=
  if (1 : Int32) = 0 then
    some (0, w)
  else
    if (0 : Int32) = 0 then
      some (1, w)
    else
      some (0, w)
set_option maxHeartbeats 4000000 in
set_option maxRecDepth 100000 in
theorem kJ0_isLatin1_aae02_s0 (X : q_X) (l : Launch) (S : q_S) (w : q_W) : q_Ct X S l mJ0_isLatin1_aae02 0 q_tI [.ref 1100] w (fJ0_isLatin1_aae02_s0 w) := by
  refine q_intro (lv := [(0, .ref 1100)]) (by decide +kernel) rfl (Nat.le_of_ble_eq_true rfl) rfl ?_
  refine q_scmp eJ0_isLatin1_aae02_0 sz_J0 ?_
  refine q_if_eq (tgt := 17) eJ0_isLatin1_aae02_3 (by decide) (fun _ => ?_) (fun _ => ?_)
  · refine q_iconst eJ0_isLatin1_aae02_17 kiconst_0 ?_
    exact q_zret eJ0_isLatin1_aae02_18 rfl rfl
  · refine q_aload_n 0 eJ0_isLatin1_aae02_6 rfl rfl ?_
    refine q_scod 0 eJ0_isLatin1_aae02_7 (by decide) sc_J0 ?_
    refine q_if_ne (tgt := 17) eJ0_isLatin1_aae02_10 (by decide) (fun _ => ?_) (fun _ => ?_)
    · refine q_iconst eJ0_isLatin1_aae02_13 kiconst_1 ?_
      refine q_goto (tgt := 18) eJ0_isLatin1_aae02_14 (by decide) ?_
      exact q_zret eJ0_isLatin1_aae02_18 rfl rfl
    · refine q_iconst eJ0_isLatin1_aae02_17 kiconst_0 ?_
      exact q_zret eJ0_isLatin1_aae02_18 rfl rfl
def fJ0_coder_7d493_s0 (w : q_W) : Option (Int32 × q_W) :=
  if (1 : Int32) = 0 then
    some (1, w)
  else
    some (0, w)
set_option maxHeartbeats 4000000 in
set_option maxRecDepth 100000 in
theorem kJ0_coder_7d493_s0 (X : q_X) (l : Launch) (S : q_S) (w : q_W) : q_Ct X S l mJ0_coder_7d493 0 q_tI [.ref 1100] w (fJ0_coder_7d493_s0 w) := by
  refine q_intro (lv := [(0, .ref 1100)]) (by decide +kernel) rfl (Nat.le_of_ble_eq_true rfl) rfl ?_
  refine q_scmp eJ0_coder_7d493_0 sz_J0 ?_
  refine q_if_eq (tgt := 13) eJ0_coder_7d493_3 (by decide) (fun _ => ?_) (fun _ => ?_)
  · refine q_iconst eJ0_coder_7d493_13 kiconst_1 ?_
    exact q_nret eJ0_coder_7d493_14 rfl rfl
  · refine q_aload_n 0 eJ0_coder_7d493_6 rfl rfl ?_
    refine q_scod 0 eJ0_coder_7d493_7 (by decide) sc_J0 ?_
    refine q_goto (tgt := 14) eJ0_coder_7d493_10 (by decide) ?_
    exact q_nret eJ0_coder_7d493_14 rfl rfl
def fJ0_length_8abf5_s0 (w : q_W) : Option (Int32 × q_W) :=
  q_b (fJ0_coder_7d493_s0 w) fun r1 w2 =>
  some ((61 >>> (r1 &&& 31)), w2)
set_option maxHeartbeats 4000000 in
set_option maxRecDepth 100000 in
theorem kJ0_length_8abf5_s0 (X : q_X) (l : Launch) (S : q_S) (w : q_W) : q_Ct X S l mJ0_length_8abf5 1 q_tI [.ref 1100] w (fJ0_length_8abf5_s0 w) := by
  refine q_intro (lv := [(0, .ref 1100)]) (by decide +kernel) rfl (Nat.le_of_ble_eq_true rfl) rfl ?_
  refine q_aload_n 0 eJ0_length_8abf5_0 rfl rfl ?_
  refine q_sval 0 eJ0_length_8abf5_1 (by decide) sv_J0 ?_
  refine q_sblen 0 (v := 61) eJ0_length_8abf5_4 (by decide) (by decide) ?_
  refine q_aload_n 0 eJ0_length_8abf5_5 rfl rfl ?_
  refine q_callTI 0 (As := []) (st := [.int 61]) eJ0_length_8abf5_6 cv_J0_335 (kJ0_coder_7d493_s0 X l S w) (by decide) rfl rfl rfl (Nat.le_of_ble_eq_true rfl) (by decide) (fun r1 w2 => ?_)
  refine q_ishr eJ0_length_8abf5_9 ?_
  exact q_ireturn eJ0_length_8abf5_10 rfl
