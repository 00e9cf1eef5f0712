/-! methods, printed by program: X7_scanInt X7_wordOrName X7_scanName X7_scanSign X7_scanToken X7_isBlank X7_skipBlanks X7_scan X5_readInto X5_placeOfFault X8_isCell X8_holds X8_keepAs X8_fill X8_colourOf X8_areaOf X8_cellsUnlike X8_edgesUnlike X8_bestShift X8_queue X8_sizeFrom -/
def fX7_scanInt_n70 (x2 : Int32) (w : q_W) : Option (Int32 × q_W) :=
  if ((w.1 24 4) - x2) ≤ 4 then
    some (2, w)
  else
    some ((-1), w)
set_option maxHeartbeats 4000000 in
set_option maxRecDepth 100000 in
theorem jX7_scanInt_n70 (X : q_X) (l : Launch) (x2 : Int32) (w : q_W) : q_J X S_C l mX7_scanInt 1 q_tI 70 [(0, .ref 24), (2, .int x2)] [] w (fX7_scanInt_n70 x2 w) := by
  refine q_aload_n 0 eX7_scanInt_70 rfl rfl ?_
  refine q_getI eX7_scanInt_71 fl_7_35 tC_24 rfl ?_
  refine q_iload_n 1 eX7_scanInt_74 rfl rfl ?_
  refine q_isub eX7_scanInt_75 ?_
  refine q_iconst eX7_scanInt_76 kiconst_4 ?_
  refine q_icmp_le (tgt := 84) eX7_scanInt_77 (by decide) (fun _ => ?_) (fun _ => ?_)
  · refine q_iconst eX7_scanInt_84 kiconst_2 ?_
    exact q_ireturn eX7_scanInt_85 rfl
  · refine q_iconst eX7_scanInt_80 kiconst_m1 ?_
    refine q_goto (tgt := 85) eX7_scanInt_81 (by decide) ?_
    exact q_ireturn eX7_scanInt_85 rfl
def fX7_scanInt_h7 (rec7 : Int32 → Int32 → q_W → Option (Int32 × q_W)) (x2 : Int32) (x3 : Int32) (w : q_W) : Option (Int32 × q_W) :=
  if 2000 < x3 then
    fX7_scanInt_n70 x2 w
  else
    q_b (fX9_byteAt (w.1 24 4) w) fun r1 w2 =>
    q_b (fX7_isDigit r1 w2) fun r3 w4 =>
    if r3 = 0 then
      fX7_scanInt_n70 x2 w4
    else
      q_b (fX9_byteAt (w4.1 24 4) w4) fun r5 w6 =>
      q_lt (q_sL w6 24 5 ((((w4.2.2 24 5) * 10) + (Int32.toInt64 r5)) - 48)) fun w7 =>
      q_lt (q_sI w7 24 4 ((w7.1 24 4) + 1)) fun w8 =>
      q_lt (x3 + 1) fun y9 =>
      rec7 x2 y9 w8
def fX7_scanInt_l7 : Int32 → Int32 → q_W → Option (Int32 × q_W) := q_it q_N (fX7_scanInt_h7) (fun _ _ _ => none)
set_option maxHeartbeats 4000000 in
set_option maxRecDepth 100000 in
theorem jX7_scanInt_h7 (X : q_X) (l : Launch) (rec7 : Int32 → Int32 → q_W → Option (Int32 × q_W)) (hr7 : ∀ x2 x3 w, q_J X S_C l mX7_scanInt 1 q_tI 7 [(0, .ref 24), (1, .ref 1), (2, .int x2), (3, .int x3)] [] w (rec7 x2 x3 w)) : ∀ x2 x3 w, q_J X S_C l mX7_scanInt 1 q_tI 7 [(0, .ref 24), (1, .ref 1), (2, .int x2), (3, .int x3)] [] w (fX7_scanInt_h7 rec7 x2 x3 w) := by
  intro x2 x3 w
  refine q_iload_n 3 eX7_scanInt_7 rfl rfl ?_
  refine q_sipush eX7_scanInt_8 ksipush_2000 ?_
  refine q_icmp_gt (tgt := 70) eX7_scanInt_11 (by decide) (fun _ => ?_) (fun _ => ?_)
  · exact q_sub [0, 2] rfl (jX7_scanInt_n70 X l x2 w)
  · refine q_aload_n 1 eX7_scanInt_14 rfl rfl ?_
    refine q_aload_n 0 eX7_scanInt_15 rfl rfl ?_
    refine q_getI eX7_scanInt_16 fl_7_35 tC_24 rfl ?_
    refine q_callVI (As := [.int (w.1 24 4)]) (st := []) eX7_scanInt_19 cv_7_53 (kX9_byteAt X l (w.1 24 4) w) tC_1 rfl (by decide) rfl rfl (Nat.le_of_ble_eq_true rfl) (by decide) (fun r1 w2 => ?_)
    refine q_callSI (As := [.int r1]) (st := []) eX7_scanInt_22 cv_7_67 (kX7_isDigit X l r1 w2) rfl rfl (Nat.le_of_ble_eq_true rfl) (by decide) (fun r3 w4 => ?_)
    refine q_if_eq (tgt := 70) eX7_scanInt_25 (by decide) (fun _ => ?_) (fun _ => ?_)
    · exact q_sub [0, 2] rfl (jX7_scanInt_n70 X l x2 w4)
    · refine q_aload_n 0 eX7_scanInt_28 rfl rfl ?_
      refine q_aload_n 0 eX7_scanInt_29 rfl rfl ?_
      refine q_getL eX7_scanInt_30 fl_7_47 tC_24 rfl ?_
      refine q_ldc2 eX7_scanInt_33 kc_7_81 ?_
      refine q_lmul eX7_scanInt_36 ?_
      refine q_aload_n 1 eX7_scanInt_37 rfl rfl ?_
      refine q_aload_n 0 eX7_scanInt_38 rfl rfl ?_
      refine q_getI eX7_scanInt_39 fl_7_35 tC_24 rfl ?_
      refine q_callVI (As := [.int (w4.1 24 4)]) (st := [.long ((w4.2.2 24 5) * 10), .ref 24]) eX7_scanInt_42 cv_7_53 (kX9_byteAt X l (w4.1 24 4) w4) tC_1 rfl (by decide) rfl rfl (Nat.le_of_ble_eq_true rfl) (by decide) (fun r5 w6 => ?_)
      refine q_i2l eX7_scanInt_45 ?_
      refine q_ladd eX7_scanInt_46 ?_
      refine q_ldc2 eX7_scanInt_47 kc_7_83 ?_
      refine q_lsub eX7_scanInt_50 ?_
      refine q_putL eX7_scanInt_51 fp_7_47 tC_24 rfl ⟨rfl, rfl⟩ ?_
      refine q_ltW (fun w7 => ?_)
      refine q_aload_n 0 eX7_scanInt_54 rfl rfl ?_
      refine q_dup eX7_scanInt_55 rfl ?_
      refine q_getI eX7_scanInt_56 fl_7_35 tC_24 rfl ?_
      refine q_iconst eX7_scanInt_59 kiconst_1 ?_
      refine q_iadd eX7_scanInt_60 ?_
      refine q_putI eX7_scanInt_61 fp_7_35 tC_24 rfl ⟨rfl, rfl⟩ ?_
      refine q_ltW (fun w8 => ?_)
      refine q_ltE (fun y9 hy9 => ?_)
      refine q_iinc (v := y9) (lv' := [(3, .int y9), (0, .ref 24), (1, .ref 1), (2, .int x2)]) 3 eX7_scanInt_64 rfl hy9 (by decide) rfl ?_
      refine q_goto (tgt := 7) eX7_scanInt_67 (by decide) ?_
      exact q_sub [1, 2, 3, 0] rfl (hr7 x2 y9 w8)
set_option maxHeartbeats 4000000 in
set_option maxRecDepth 100000 in
theorem jX7_scanInt_l7 (X : q_X) (l : Launch) : ∀ x2 x3 w, q_J X S_C l mX7_scanInt 1 q_tI 7 [(0, .ref 24), (1, .ref 1), (2, .int x2), (3, .int x3)] [] w (fX7_scanInt_l7 x2 x3 w) := by
  exact q_it_ind (fun rc => ∀ x2 x3 w, q_J X S_C l mX7_scanInt 1 q_tI 7 [(0, .ref 24), (1, .ref 1), (2, .int x2), (3, .int x3)] [] w (rc x2 x3 w)) _ _ (fun _ _ _ => q_none) (fun rc hrc => jX7_scanInt_h7 X l rc hrc) q_N
def fX7_scanInt (w : q_W) : Option (Int32 × q_W) :=
  q_lt (w.1 24 4) fun y1 =>
  fX7_scanInt_l7 y1 0 w
set_option maxHeartbeats 4000000 in
set_option maxRecDepth 100000 in
theorem kX7_scanInt (X : q_X) (l : Launch) (w : q_W) : q_Ct X S_C l mX7_scanInt 1 q_tI [.ref 24, .ref 1] w (fX7_scanInt w) := by
  refine q_intro (lv := [(0, .ref 24), (1, .ref 1)]) (by decide +kernel) rfl (Nat.le_of_ble_eq_true rfl) rfl ?_
  refine q_aload_n 0 eX7_scanInt_0 rfl rfl ?_
  refine q_getI eX7_scanInt_1 fl_7_35 tC_24 rfl ?_
  refine q_ltI (fun y1 => ?_)
  refine q_istore_n (lv' := [(2, .int y1), (0, .ref 24), (1, .ref 1)]) eX7_scanInt_4 rfl (by decide) rfl ?_
  refine q_iconst eX7_scanInt_5 kiconst_0 ?_
  refine q_istore_n (lv' := [(3, .int 0), (2, .int y1), (0, .ref 24), (1, .ref 1)]) eX7_scanInt_6 rfl (by decide) rfl ?_
  exact q_sub [2, 3, 1, 0] rfl (jX7_scanInt_l7 X l y1 0 w)
def fX7_wordOrName_h2 (rec2 : Int64 → Int32 → q_W → Option (Int32 × q_W)) (x1 : Int64) (x3 : Int32) (w : q_W) : Option (Int32 × q_W) :=
  if 15 ≤ x3 then
    some (1, w)
  else
    if q_inb x3 15 then
    if (lg_cmp (w.2.2 25 (q_ix x3)) x1) = 0 then
      some ((3 + x3), w)
    else
      q_lt (x3 + 1) fun y1 =>
      rec2 x1 y1 w
    else none
def fX7_wordOrName_l2 : Int64 → Int32 → q_W → Option (Int32 × q_W) := q_it q_N (fX7_wordOrName_h2) (fun _ _ _ => none)
set_option maxHeartbeats 4000000 in
set_option maxRecDepth 100000 in
theorem jX7_wordOrName_h2 (X : q_X) (l : Launch) (rec2 : Int64 → Int32 → q_W → Option (Int32 × q_W)) (hr2 : ∀ x1 x3 w, q_J X S_C l mX7_wordOrName 0 q_tI 2 [(0, .ref 24), (1, .long x1), (3, .int x3)] [] w (rec2 x1 x3 w)) : ∀ x1 x3 w, q_J X S_C l mX7_wordOrName 0 q_tI 2 [(0, .ref 24), (1, .long x1), (3, .int x3)] [] w (fX7_wordOrName_h2 rec2 x1 x3 w) := by
  intro x1 x3 w
  refine q_iload_n 2 eX7_wordOrName_2 rfl rfl ?_
  refine q_aload_n 0 eX7_wordOrName_3 rfl rfl ?_
  refine q_getG (v := 25) eX7_wordOrName_4 fl_7_9 tC_24 rfl gC_24_0 ?_
  refine q_alenL eX7_wordOrName_7 tC_25 nC_25 ?_
  refine q_icmp_ge (tgt := 32) eX7_wordOrName_8 (by decide) (fun _ => ?_) (fun _ => ?_)
  · refine q_iconst eX7_wordOrName_32 kiconst_1 ?_
    exact q_ireturn eX7_wordOrName_33 rfl
  · refine q_aload_n 0 eX7_wordOrName_11 rfl rfl ?_
    refine q_getG (v := 25) eX7_wordOrName_12 fl_7_9 tC_24 rfl gC_24_0 ?_
    refine q_iload_n 2 eX7_wordOrName_15 rfl rfl ?_
    refine q_lald eX7_wordOrName_16 tC_25 nC_25 ?_
    refine q_lload_n 1 eX7_wordOrName_17 rfl rfl ?_
    refine q_lcmp eX7_wordOrName_18 ?_
    refine q_if_ne (tgt := 26) eX7_wordOrName_19 (by decide) (fun _ => ?_) (fun _ => ?_)
    · refine q_iconst eX7_wordOrName_22 kiconst_3 ?_
      refine q_iload_n 2 eX7_wordOrName_23 rfl rfl ?_
      refine q_iadd eX7_wordOrName_24 ?_
      exact q_ireturn eX7_wordOrName_25 rfl
    · refine q_ltE (fun y1 hy1 => ?_)
      refine q_iinc (v := y1) (lv' := [(3, .int y1), (0, .ref 24), (1, .long x1)]) 2 eX7_wordOrName_26 rfl hy1 (by decide) rfl ?_
      refine q_goto (tgt := 2) eX7_wordOrName_29 (by decide) ?_
      exact q_sub [1, 2, 0] rfl (hr2 x1 y1 w)
set_option maxHeartbeats 4000000 in
set_option maxRecDepth 100000 in
theorem jX7_wordOrName_l2 (X : q_X) (l : Launch) : ∀ x1 x3 w, q_J X S_C l mX7_wordOrName 0 q_tI 2 [(0, .ref 24), (1, .long x1), (3, .int x3)] [] w (fX7_wordOrName_l2 x1 x3 w) := by
  exact q_it_ind (fun rc => ∀ x1 x3 w, q_J X S_C l mX7_wordOrName 0 q_tI 2 [(0, .ref 24), (1, .long x1), (3, .int x3)] [] w (rc x1 x3 w)) _ _ (fun _ _ _ => q_none) (fun rc hrc => jX7_wordOrName_h2 X l rc hrc) q_N
def fX7_wordOrName (a1 : Int64) (w : q_W) : Option (Int32 × q_W) :=
  fX7_wordOrName_l2 a1 0 w
set_option maxHeartbeats 4000000 in
set_option maxRecDepth 100000 in
theorem kX7_wordOrName (X : q_X) (l : Launch) (a1 : Int64) (w : q_W) : q_Ct X S_C l mX7_wordOrName 0 q_tI [.ref 24, .long a1] w (fX7_wordOrName a1 w) := by
  refine q_intro (lv := [(0, .ref 24), (1, .long a1)]) (by decide +kernel) rfl (Nat.le_of_ble_eq_true rfl) rfl ?_
  refine q_iconst eX7_wordOrName_0 kiconst_0 ?_
  refine q_istore_n (lv' := [(3, .int 0), (0, .ref 24), (1, .long a1)]) eX7_wordOrName_1 rfl (by decide) rfl ?_
  exact q_sub [1, 2, 0] rfl (jX7_wordOrName_l2 X l a1 0 w)
def fX7_scanName_n79 (x2 : Int32) (w : q_W) : Option (Int32 × q_W) :=
  if ((w.1 24 4) - x2) ≤ 8 then
    q_b (fX7_wordOrName (w.2.2 24 5) w) fun r1 w2 =>
    some (r1, w2)
  else
    some ((-1), w)
set_option maxHeartbeats 4000000 in
set_option maxRecDepth 100000 in
theorem jX7_scanName_n79 (X : q_X) (l : Launch) (x2 : Int32) (w : q_W) : q_J X S_C l mX7_scanName 1 q_tI 79 [(0, .ref 24), (2, .int x2)] [] w (fX7_scanName_n79 x2 w) := by
  refine q_aload_n 0 eX7_scanName_79 rfl rfl ?_
  refine q_getI eX7_scanName_80 fl_7_35 tC_24 rfl ?_
  refine q_iload_n 1 eX7_scanName_83 rfl rfl ?_
  refine q_isub eX7_scanName_84 ?_
  refine q_bipush eX7_scanName_85 kbipush_8 ?_
  refine q_icmp_le (tgt := 94) eX7_scanName_87 (by decide) (fun _ => ?_) (fun _ => ?_)
  · refine q_aload_n 0 eX7_scanName_94 rfl rfl ?_
    refine q_aload_n 0 eX7_scanName_95 rfl rfl ?_
    refine q_getL eX7_scanName_96 fl_7_47 tC_24 rfl ?_
    refine q_callVI (As := [.long (w.2.2 24 5)]) (st := []) eX7_scanName_99 cv_7_77 (kX7_wordOrName X l (w.2.2 24 5) w) tC_24 rfl (by decide) rfl rfl (Nat.le_of_ble_eq_true rfl) (by decide) (fun r1 w2 => ?_)
    exact q_ireturn eX7_scanName_102 rfl
  · refine q_iconst eX7_scanName_90 kiconst_m1 ?_
    refine q_goto (tgt := 102) eX7_scanName_91 (by decide) ?_
    exact q_ireturn eX7_scanName_102 rfl
def fX7_scanName_n42 (rec7 : Int32 → Int32 → q_W → Option (Int32 × q_W)) (x2 : Int32) (x3 : Int32) (w : q_W) : Option (Int32 × q_W) :=
  q_b (fX9_byteAt (w.1 24 4) w) fun r1 w2 =>
  q_lt (q_sL w2 24 5 (((w.2.2 24 5) <<< ((8 : Int32).toInt64 &&& 63)) ||| (Int32.toInt64 r1))) fun w3 =>
  q_lt (q_sI w3 24 4 ((w3.1 24 4) + 1)) fun w4 =>
  q_lt (x3 + 1) fun y5 =>
  rec7 x2 y5 w4
set_option maxHeartbeats 4000000 in
set_option maxRecDepth 100000 in
theorem jX7_scanName_n42 (X : q_X) (l : Launch) (rec7 : Int32 → Int32 → q_W → Option (Int32 × q_W)) (hr7 : ∀ x2 x3 w, q_J X S_C l mX7_scanName 1 q_tI 7 [(0, .ref 24), (1, .ref 1), (2, .int x2), (3, .int x3)] [] w (rec7 x2 x3 w)) (x2 : Int32) (x3 : Int32) (w : q_W) : q_J X S_C l mX7_scanName 1 q_tI 42 [(0, .ref 24), (1, .ref 1), (2, .int x2), (3, .int x3)] [] w (fX7_scanName_n42 rec7 x2 x3 w) := by
  refine q_aload_n 0 eX7_scanName_42 rfl rfl ?_
  refine q_aload_n 0 eX7_scanName_43 rfl rfl ?_
  refine q_getL eX7_scanName_44 fl_7_47 tC_24 rfl ?_
  refine q_bipush eX7_scanName_47 kbipush_8 ?_
  refine q_lshl eX7_scanName_49 ?_
  refine q_aload_n 1 eX7_scanName_50 rfl rfl ?_
  refine q_aload_n 0 eX7_scanName_51 rfl rfl ?_
  refine q_getI eX7_scanName_52 fl_7_35 tC_24 rfl ?_
  refine q_callVI (As := [.int (w.1 24 4)]) (st := [.long ((w.2.2 24 5) <<< ((8 : Int32).toInt64 &&& 63)), .ref 24]) eX7_scanName_55 cv_7_53 (kX9_byteAt X l (w.1 24 4) w) tC_1 rfl (by decide) rfl rfl (Nat.le_of_ble_eq_true rfl) (by decide) (fun r1 w2 => ?_)
  refine q_i2l eX7_scanName_58 ?_
  refine q_lor eX7_scanName_59 ?_
  refine q_putL eX7_scanName_60 fp_7_47 tC_24 rfl ⟨rfl, rfl⟩ ?_
  refine q_ltW (fun w3 => ?_)
  refine q_aload_n 0 eX7_scanName_63 rfl rfl ?_
  refine q_dup eX7_scanName_64 rfl ?_
  refine q_getI eX7_scanName_65 fl_7_35 tC_24 rfl ?_
  refine q_iconst eX7_scanName_68 kiconst_1 ?_
  refine q_iadd eX7_scanName_69 ?_
  refine q_putI eX7_scanName_70 fp_7_35 tC_24 rfl ⟨rfl, rfl⟩ ?_
  refine q_ltW (fun w4 => ?_)
  refine q_ltE (fun y5 hy5 => ?_)
  refine q_iinc (v := y5) (lv' := [(3, .int y5), (0, .ref 24), (1, .ref 1), (2, .int x2)]) 3 eX7_scanName_73 rfl hy5 (by decide) rfl ?_
  refine q_goto (tgt := 7) eX7_scanName_76 (by decide) ?_
  exact q_sub [1, 2, 3, 0] rfl (hr7 x2 y5 w4)
def fX7_scanName_h7 (rec7 : Int32 → Int32 → q_W → Option (Int32 × q_W)) (x2 : Int32) (x3 : Int32) (w : q_W) : Option (Int32 × q_W) :=
  if 2000 < x3 then
    fX7_scanName_n79 x2 w
  else
    q_b (fX9_byteAt (w.1 24 4) w) fun r1 w2 =>
    q_b (fX7_isLetter r1 w2) fun r3 w4 =>
    if r3 = 0 then
      q_b (fX9_byteAt (w4.1 24 4) w4) fun r5 w6 =>
      q_b (fX7_isDigit r5 w6) fun r7 w8 =>
      if r7 = 0 then
        fX7_scanName_n79 x2 w8
      else
        fX7_scanName_n42 rec7 x2 x3 w8
    else
      fX7_scanName_n42 rec7 x2 x3 w4
def fX7_scanName_l7 : Int32 → Int32 → q_W → Option (Int32 × q_W) := q_it q_N (fX7_scanName_h7) (fun _ _ _ => none)
set_option maxHeartbeats 4000000 in
set_option maxRecDepth 100000 in
theorem jX7_scanName_h7 (X : q_X) (l : Launch) (rec7 : Int32 → Int32 → q_W → Option (Int32 × q_W)) (hr7 : ∀ x2 x3 w, q_J X S_C l mX7_scanName 1 q_tI 7 [(0, .ref 24), (1, .ref 1), (2, .int x2), (3, .int x3)] [] w (rec7 x2 x3 w)) : ∀ x2 x3 w, q_J X S_C l mX7_scanName 1 q_tI 7 [(0, .ref 24), (1, .ref 1), (2, .int x2), (3, .int x3)] [] w (fX7_scanName_h7 rec7 x2 x3 w) := by
  intro x2 x3 w
  refine q_iload_n 3 eX7_scanName_7 rfl rfl ?_
  refine q_sipush eX7_scanName_8 ksipush_2000 ?_
  refine q_icmp_gt (tgt := 79) eX7_scanName_11 (by decide) (fun _ => ?_) (fun _ => ?_)
  · exact q_sub [0, 2] rfl (jX7_scanName_n79 X l x2 w)
  · refine q_aload_n 1 eX7_scanName_14 rfl rfl ?_
    refine q_aload_n 0 eX7_scanName_15 rfl rfl ?_
    refine q_getI eX7_scanName_16 fl_7_35 tC_24 rfl ?_
    refine q_callVI (As := [.int (w.1 24 4)]) (st := []) eX7_scanName_19 cv_7_53 (kX9_byteAt X l (w.1 24 4) w) tC_1 rfl (by decide) rfl rfl (Nat.le_of_ble_eq_true rfl) (by decide) (fun r1 w2 => ?_)
    refine q_callSI (As := [.int r1]) (st := []) eX7_scanName_22 cv_7_61 (kX7_isLetter X l r1 w2) rfl rfl (Nat.le_of_ble_eq_true rfl) (by decide) (fun r3 w4 => ?_)
    refine q_if_ne (tgt := 42) eX7_scanName_25 (by decide) (fun _ => ?_) (fun _ => ?_)
    · refine q_aload_n 1 eX7_scanName_28 rfl rfl ?_
      refine q_aload_n 0 eX7_scanName_29 rfl rfl ?_
      refine q_getI eX7_scanName_30 fl_7_35 tC_24 rfl ?_
      refine q_callVI (As := [.int (w4.1 24 4)]) (st := []) eX7_scanName_33 cv_7_53 (kX9_byteAt X l (w4.1 24 4) w4) tC_1 rfl (by decide) rfl rfl (Nat.le_of_ble_eq_true rfl) (by decide) (fun r5 w6 => ?_)
      refine q_callSI (As := [.int r5]) (st := []) eX7_scanName_36 cv_7_67 (kX7_isDigit X l r5 w6) rfl rfl (Nat.le_of_ble_eq_true rfl) (by decide) (fun r7 w8 => ?_)
      refine q_if_eq (tgt := 79) eX7_scanName_39 (by decide) (fun _ => ?_) (fun _ => ?_)
      · exact q_sub [0, 2] rfl (jX7_scanName_n79 X l x2 w8)
      · exact q_sub [0, 1, 2, 3] rfl (jX7_scanName_n42 X l rec7 hr7 x2 x3 w8)
    · exact q_sub [0, 1, 2, 3] rfl (jX7_scanName_n42 X l rec7 hr7 x2 x3 w4)
set_option maxHeartbeats 4000000 in
set_option maxRecDepth 100000 in
theorem jX7_scanName_l7 (X : q_X) (l : Launch) : ∀ x2 x3 w, q_J X S_C l mX7_scanName 1 q_tI 7 [(0, .ref 24), (1, .ref 1), (2, .int x2), (3, .int x3)] [] w (fX7_scanName_l7 x2 x3 w) := by
  exact q_it_ind (fun rc => ∀ x2 x3 w, q_J X S_C l mX7_scanName 1 q_tI 7 [(0, .ref 24), (1, .ref 1), (2, .int x2), (3, .int x3)] [] w (rc x2 x3 w)) _ _ (fun _ _ _ => q_none) (fun rc hrc => jX7_scanName_h7 X l rc hrc) q_N
def fX7_scanName (w : q_W) : Option (Int32 × q_W) :=
  q_lt (w.1 24 4) fun y1 =>
  fX7_scanName_l7 y1 0 w
set_option maxHeartbeats 4000000 in
set_option maxRecDepth 100000 in
theorem kX7_scanName (X : q_X) (l : Launch) (w : q_W) : q_Ct X S_C l mX7_scanName 1 q_tI [.ref 24, .ref 1] w (fX7_scanName w) := by
  refine q_intro (lv := [(0, .ref 24), (1, .ref 1)]) (by decide +kernel) rfl (Nat.le_of_ble_eq_true rfl) rfl ?_
  refine q_aload_n 0 eX7_scanName_0 rfl rfl ?_
  refine q_getI eX7_scanName_1 fl_7_35 tC_24 rfl ?_
  refine q_ltI (fun y1 => ?_)
  refine q_istore_n (lv' := [(2, .int y1), (0, .ref 24), (1, .ref 1)]) eX7_scanName_4 rfl (by decide) rfl ?_
  refine q_iconst eX7_scanName_5 kiconst_0 ?_
  refine q_istore_n (lv' := [(3, .int 0), (2, .int y1), (0, .ref 24), (1, .ref 1)]) eX7_scanName_6 rfl (by decide) rfl ?_
  exact q_sub [2, 3, 1, 0] rfl (jX7_scanName_l7 X l y1 0 w)
def fX7_scanSign_n57 (x2 : Int32) (w : q_W) : Option (Int32 × q_W) :=
  q_b (fJ0_indexOf_0f7a4_s1 (UInt32.toInt32 (Int32.toUInt32 x2 % 65536)) w) fun r1 w2 =>
  if r1 < 0 then
    some ((-1), w2)
  else
    some (x2, w2)
set_option maxHeartbeats 4000000 in
set_option maxRecDepth 100000 in
theorem jX7_scanSign_n57 (X : q_X) (l : Launch) (x2 : Int32) (w : q_W) : q_J X S_C l mX7_scanSign 4 q_tI 57 [(2, .int x2)] [] w (fX7_scanSign_n57 x2 w) := by
  refine q_ldcS 1 eX7_scanSign_57 (by decide) rfl rfl ?_
  refine q_iload_n 0 eX7_scanSign_59 rfl rfl ?_
  refine q_i2c eX7_scanSign_60 ?_
  refine q_callTI 1 (As := [.int (UInt32.toInt32 (Int32.toUInt32 x2 % 65536))]) (st := []) eX7_scanSign_61 cv_X7_87 (kJ0_indexOf_0f7a4_s1 X l S_C (UInt32.toInt32 (Int32.toUInt32 x2 % 65536)) w) (by decide) rfl rfl rfl (Nat.le_of_ble_eq_true rfl) (by decide) (fun r1 w2 => ?_)
  refine q_if_lt (tgt := 71) eX7_scanSign_64 (by decide) (fun _ => ?_) (fun _ => ?_)
  · refine q_iconst eX7_scanSign_71 kiconst_m1 ?_
    exact q_ireturn eX7_scanSign_72 rfl
  · refine q_iload_n 0 eX7_scanSign_67 rfl rfl ?_
    refine q_goto (tgt := 72) eX7_scanSign_68 (by decide) ?_
    exact q_ireturn eX7_scanSign_72 rfl
def fX7_scanSign_n41 (x2 : Int32) (w : q_W) : Option (Int32 × q_W) :=
  q_lt (q_sI w 24 4 ((w.1 24 4) + 1)) fun w1 =>
  some ((x2 + 256), w1)
set_option maxHeartbeats 4000000 in
set_option maxRecDepth 100000 in
theorem jX7_scanSign_n41 (X : q_X) (l : Launch) (x2 : Int32) (w : q_W) : q_J X S_C l mX7_scanSign 4 q_tI 41 [(0, .ref 24), (2, .int x2)] [] w (fX7_scanSign_n41 x2 w) := by
  refine q_aload_n 0 eX7_scanSign_41 rfl rfl ?_
  refine q_dup eX7_scanSign_42 rfl ?_
  refine q_getI eX7_scanSign_43 fl_7_35 tC_24 rfl ?_
  refine q_iconst eX7_scanSign_46 kiconst_1 ?_
  refine q_iadd eX7_scanSign_47 ?_
  refine q_putI eX7_scanSign_48 fp_7_35 tC_24 rfl ⟨rfl, rfl⟩ ?_
  refine q_ltW (fun w1 => ?_)
  refine q_iload_n 1 eX7_scanSign_51 rfl rfl ?_
  refine q_sipush eX7_scanSign_52 ksipush_256 ?_
  refine q_iadd eX7_scanSign_55 ?_
  exact q_ireturn eX7_scanSign_56 rfl
def fX7_scanSign (a2 : Int32) (w : q_W) : Option (Int32 × q_W) :=
  q_lt (q_sI w 24 4 ((w.1 24 4) + 1)) fun w1 =>
  q_b (fX9_byteAt (w1.1 24 4) w1) fun r2 w3 =>
  if r2 = 61 then
    if a2 = 61 then
      fX7_scanSign_n41 a2 w3
    else
      if a2 = 33 then
        fX7_scanSign_n41 a2 w3
      else
        if a2 = 60 then
          fX7_scanSign_n41 a2 w3
        else
          fX7_scanSign_n57 a2 w3
  else
    fX7_scanSign_n57 a2 w3
set_option maxHeartbeats 4000000 in
set_option maxRecDepth 100000 in
theorem kX7_scanSign (X : q_X) (l : Launch) (a2 : Int32) (w : q_W) : q_Ct X S_C l mX7_scanSign 4 q_tI [.ref 24, .ref 1, .int a2] w (fX7_scanSign a2 w) := by
  refine q_intro (lv := [(0, .ref 24), (1, .ref 1), (2, .int a2)]) (by decide +kernel) rfl (Nat.le_of_ble_eq_true rfl) rfl ?_
  refine q_aload_n 0 eX7_scanSign_0 rfl rfl ?_
  refine q_dup eX7_scanSign_1 rfl ?_
  refine q_getI eX7_scanSign_2 fl_7_35 tC_24 rfl ?_
  refine q_iconst eX7_scanSign_5 kiconst_1 ?_
  refine q_iadd eX7_scanSign_6 ?_
  refine q_putI eX7_scanSign_7 fp_7_35 tC_24 rfl ⟨rfl, rfl⟩ ?_
  refine q_ltW (fun w1 => ?_)
  refine q_aload_n 1 eX7_scanSign_10 rfl rfl ?_
  refine q_aload_n 0 eX7_scanSign_11 rfl rfl ?_
  refine q_getI eX7_scanSign_12 fl_7_35 tC_24 rfl ?_
  refine q_callVI (As := [.int (w1.1 24 4)]) (st := []) eX7_scanSign_15 cv_7_53 (kX9_byteAt X l (w1.1 24 4) w1) tC_1 rfl (by decide) rfl rfl (Nat.le_of_ble_eq_true rfl) (by decide) (fun r2 w3 => ?_)
  refine q_bipush eX7_scanSign_18 kbipush_61 ?_
  refine q_icmp_ne (tgt := 57) eX7_scanSign_20 (by decide) (fun _ => ?_) (fun _ => ?_)
  · refine q_iload_n 2 eX7_scanSign_23 rfl rfl ?_
    refine q_bipush eX7_scanSign_24 kbipush_61 ?_
    refine q_icmp_eq (tgt := 41) eX7_scanSign_26 (by decide) (fun _ => ?_) (fun _ => ?_)
    · exact q_sub [0, 2] rfl (jX7_scanSign_n41 X l a2 w3)
    · refine q_iload_n 2 eX7_scanSign_29 rfl rfl ?_
      refine q_bipush eX7_scanSign_30 kbipush_33 ?_
      refine q_icmp_eq (tgt := 41) eX7_scanSign_32 (by decide) (fun _ => ?_) (fun _ => ?_)
      · exact q_sub [0, 2] rfl (jX7_scanSign_n41 X l a2 w3)
      · refine q_iload_n 2 eX7_scanSign_35 rfl rfl ?_
        refine q_bipush eX7_scanSign_36 kbipush_60 ?_
        refine q_icmp_ne (tgt := 57) eX7_scanSign_38 (by decide) (fun _ => ?_) (fun _ => ?_)
        · exact q_sub [0, 2] rfl (jX7_scanSign_n41 X l a2 w3)
        · exact q_sub [2] rfl (jX7_scanSign_n57 X l a2 w3)
  · exact q_sub [2] rfl (jX7_scanSign_n57 X l a2 w3)
def fX7_scanToken (w : q_W) : Option (Int32 × q_W) :=
  q_b (fX9_byteAt (w.1 24 4) w) fun r1 w2 =>
  q_lt (q_sL w2 24 5 0) fun w3 =>
  if 0 ≤ r1 then
    q_b (fX7_isLetter r1 w3) fun r4 w5 =>
    if r4 = 0 then
      q_b (fX7_isDigit r1 w5) fun r6 w7 =>
      if r6 = 0 then
        q_b (fX7_scanSign r1 w7) fun r8 w9 =>
        some (r8, w9)
      else
        q_b (fX7_scanInt w7) fun r10 w11 =>
        some (r10, w11)
    else
      q_b (fX7_scanName w5) fun r12 w13 =>
      some (r12, w13)
  else
    some (0, w3)
set_option maxHeartbeats 4000000 in
set_option maxRecDepth 100000 in
theorem kX7_scanToken (X : q_X) (l : Launch) (w : q_W) : q_Ct X S_C l mX7_scanToken 5 q_tI [.ref 24, .ref 1] w (fX7_scanToken w) := by
  refine q_intro (lv := [(0, .ref 24), (1, .ref 1)]) (by decide +kernel) rfl (Nat.le_of_ble_eq_true rfl) rfl ?_
  refine q_aload_n 1 eX7_scanToken_0 rfl rfl ?_
  refine q_aload_n 0 eX7_scanToken_1 rfl rfl ?_
  refine q_getI eX7_scanToken_2 fl_7_35 tC_24 rfl ?_
  refine q_callVI (As := [.int (w.1 24 4)]) (st := []) eX7_scanToken_5 cv_7_53 (kX9_byteAt X l (w.1 24 4) w) tC_1 rfl (by decide) rfl rfl (Nat.le_of_ble_eq_true rfl) (by decide) (fun r1 w2 => ?_)
  refine q_istore_n (lv' := [(2, .int r1), (0, .ref 24), (1, .ref 1)]) eX7_scanToken_8 rfl (by decide) rfl ?_
  refine q_aload_n 1 eX7_scanToken_9 rfl rfl ?_
  refine q_lconst (v := 0) eX7_scanToken_10 rfl ?_
  refine q_putL eX7_scanToken_11 fp_7_47 tC_24 rfl ⟨rfl, rfl⟩ ?_
  refine q_ltW (fun w3 => ?_)
  refine q_iload_n 0 eX7_scanToken_14 rfl rfl ?_
  refine q_if_ge (tgt := 20) eX7_scanToken_15 (by decide) (fun _ => ?_) (fun _ => ?_)
  · refine q_iload_n 0 eX7_scanToken_20 rfl rfl ?_
    refine q_callSI (As := [.int r1]) (st := []) eX7_scanToken_21 cv_7_61 (kX7_isLetter X l r1 w3) rfl rfl (Nat.le_of_ble_eq_true rfl) (by decide) (fun r4 w5 => ?_)
    refine q_if_eq (tgt := 33) eX7_scanToken_24 (by decide) (fun _ => ?_) (fun _ => ?_)
    · refine q_iload_n 0 eX7_scanToken_33 rfl rfl ?_
      refine q_callSI (As := [.int r1]) (st := []) eX7_scanToken_34 cv_7_67 (kX7_isDigit X l r1 w5) rfl rfl (Nat.le_of_ble_eq_true rfl) (by decide) (fun r6 w7 => ?_)
      refine q_if_eq (tgt := 48) eX7_scanToken_37 (by decide) (fun _ => ?_) (fun _ => ?_)
      · refine q_aload_n 1 eX7_scanToken_48 rfl rfl ?_
        refine q_aload_n 2 eX7_scanToken_49 rfl rfl ?_
        refine q_iload_n 0 eX7_scanToken_50 rfl rfl ?_
        refine q_callVI (As := [.ref 1, .int r1]) (st := []) eX7_scanToken_51 cv_7_73 (kX7_scanSign X l r1 w7) tC_24 rfl (by decide) rfl rfl (Nat.le_of_ble_eq_true rfl) (by decide) (fun r8 w9 => ?_)
        exact q_ireturn eX7_scanToken_54 rfl
      · refine q_aload_n 1 eX7_scanToken_40 rfl rfl ?_
        refine q_aload_n 2 eX7_scanToken_41 rfl rfl ?_
        refine q_callVI (As := [.ref 1]) (st := []) eX7_scanToken_42 cv_7_70 (kX7_scanInt X l w7) tC_24 rfl (by decide) rfl rfl (Nat.le_of_ble_eq_true rfl) (by decide) (fun r10 w11 => ?_)
        refine q_goto (tgt := 54) eX7_scanToken_45 (by decide) ?_
        exact q_ireturn eX7_scanToken_54 rfl
    · refine q_aload_n 1 eX7_scanToken_27 rfl rfl ?_
      refine q_aload_n 2 eX7_scanToken_28 rfl rfl ?_
      refine q_callVI (As := [.ref 1]) (st := []) eX7_scanToken_29 cv_7_64 (kX7_scanName X l w5) tC_24 rfl (by decide) rfl rfl (Nat.le_of_ble_eq_true rfl) (by decide) (fun r12 w13 => ?_)
      exact q_ireturn eX7_scanToken_32 rfl
  · refine q_iconst eX7_scanToken_18 kiconst_0 ?_
    exact q_ireturn eX7_scanToken_19 rfl
def fX7_isBlank (a0 : Int32) (w : q_W) : Option (Int32 × q_W) :=
  if a0 = 9 then
    some (1, w)
  else
    if a0 = 10 then
      some (1, w)
    else
      if a0 = 13 then
        some (1, w)
      else
        if a0 = 32 then
          some (1, w)
        else
          some (0, w)
set_option maxHeartbeats 4000000 in
set_option maxRecDepth 100000 in
theorem kX7_isBlank (X : q_X) (l : Launch) (a0 : Int32) (w : q_W) : q_Ct X S_C l mX7_isBlank 0 q_tI [.int a0] w (fX7_isBlank a0 w) := by
  refine q_intro (lv := [(0, .int a0)]) (by decide +kernel) rfl (Nat.le_of_ble_eq_true rfl) rfl ?_
  refine q_iload_n 0 eX7_isBlank_0 rfl rfl ?_
  refine q_bipush eX7_isBlank_1 kbipush_9 ?_
  refine q_icmp_eq (tgt := 24) eX7_isBlank_3 (by decide) (fun _ => ?_) (fun _ => ?_)
  · refine q_iconst eX7_isBlank_24 kiconst_1 ?_
    refine q_goto (tgt := 29) eX7_isBlank_25 (by decide) ?_
    exact q_zret eX7_isBlank_29 rfl rfl
  · refine q_iload_n 0 eX7_isBlank_6 rfl rfl ?_
    refine q_bipush eX7_isBlank_7 kbipush_10 ?_
    refine q_icmp_eq (tgt := 24) eX7_isBlank_9 (by decide) (fun _ => ?_) (fun _ => ?_)
    · refine q_iconst eX7_isBlank_24 kiconst_1 ?_
      refine q_goto (tgt := 29) eX7_isBlank_25 (by decide) ?_
      exact q_zret eX7_isBlank_29 rfl rfl
    · refine q_iload_n 0 eX7_isBlank_12 rfl rfl ?_
      refine q_bipush eX7_isBlank_13 kbipush_13 ?_
      refine q_icmp_eq (tgt := 24) eX7_isBlank_15 (by decide) (fun _ => ?_) (fun _ => ?_)
      · refine q_iconst eX7_isBlank_24 kiconst_1 ?_
        refine q_goto (tgt := 29) eX7_isBlank_25 (by decide) ?_
        exact q_zret eX7_isBlank_29 rfl rfl
      · refine q_iload_n 0 eX7_isBlank_18 rfl rfl ?_
        refine q_bipush eX7_isBlank_19 kbipush_32 ?_
        refine q_icmp_ne (tgt := 28) eX7_isBlank_21 (by decide) (fun _ => ?_) (fun _ => ?_)
        · refine q_iconst eX7_isBlank_24 kiconst_1 ?_
          refine q_goto (tgt := 29) eX7_isBlank_25 (by decide) ?_
          exact q_zret eX7_isBlank_29 rfl rfl
        · refine q_iconst eX7_isBlank_28 kiconst_0 ?_
          exact q_zret eX7_isBlank_29 rfl rfl
def fX7_skipBlanks_h2 (rec2 : Int32 → q_W → Option (Unit × q_W)) (x2 : Int32) (w : q_W) : Option (Unit × q_W) :=
  if 2000 < x2 then
    some ((), w)
  else
    q_b (fX9_byteAt (w.1 24 4) w) fun r1 w2 =>
    q_b (fX7_isBlank r1 w2) fun r3 w4 =>
    if r3 = 0 then
      some ((), w4)
    else
      q_lt (q_sI w4 24 4 ((w4.1 24 4) + 1)) fun w5 =>
      q_lt (x2 + 1) fun y6 =>
      rec2 y6 w5
def fX7_skipBlanks_l2 : Int32 → q_W → Option (Unit × q_W) := q_it q_N (fX7_skipBlanks_h2) (fun _ _ => none)
set_option maxHeartbeats 4000000 in
set_option maxRecDepth 100000 in
theorem jX7_skipBlanks_h2 (X : q_X) (l : Launch) (rec2 : Int32 → q_W → Option (Unit × q_W)) (hr2 : ∀ x2 w, q_J X S_C l mX7_skipBlanks 1 q_tV 2 [(0, .ref 24), (1, .ref 1), (2, .int x2)] [] w (rec2 x2 w)) : ∀ x2 w, q_J X S_C l mX7_skipBlanks 1 q_tV 2 [(0, .ref 24), (1, .ref 1), (2, .int x2)] [] w (fX7_skipBlanks_h2 rec2 x2 w) := by
  intro x2 w
  refine q_iload_n 2 eX7_skipBlanks_2 rfl rfl ?_
  refine q_sipush eX7_skipBlanks_3 ksipush_2000 ?_
  refine q_icmp_gt (tgt := 39) eX7_skipBlanks_6 (by decide) (fun _ => ?_) (fun _ => ?_)
  · exact q_return eX7_skipBlanks_39 rfl
  · refine q_aload_n 1 eX7_skipBlanks_9 rfl rfl ?_
    refine q_aload_n 0 eX7_skipBlanks_10 rfl rfl ?_
    refine q_getI eX7_skipBlanks_11 fl_7_35 tC_24 rfl ?_
    refine q_callVI (As := [.int (w.1 24 4)]) (st := []) eX7_skipBlanks_14 cv_7_53 (kX9_byteAt X l (w.1 24 4) w) tC_1 rfl (by decide) rfl rfl (Nat.le_of_ble_eq_true rfl) (by decide) (fun r1 w2 => ?_)
    refine q_callSI (As := [.int r1]) (st := []) eX7_skipBlanks_17 cv_7_57 (kX7_isBlank X l r1 w2) rfl rfl (Nat.le_of_ble_eq_true rfl) (by decide) (fun r3 w4 => ?_)
    refine q_if_eq (tgt := 39) eX7_skipBlanks_20 (by decide) (fun _ => ?_) (fun _ => ?_)
    · exact q_return eX7_skipBlanks_39 rfl
    · refine q_aload_n 0 eX7_skipBlanks_23 rfl rfl ?_
      refine q_dup eX7_skipBlanks_24 rfl ?_
      refine q_getI eX7_skipBlanks_25 fl_7_35 tC_24 rfl ?_
      refine q_iconst eX7_skipBlanks_28 kiconst_1 ?_
      refine q_iadd eX7_skipBlanks_29 ?_
      refine q_putI eX7_skipBlanks_30 fp_7_35 tC_24 rfl ⟨rfl, rfl⟩ ?_
      refine q_ltW (fun w5 => ?_)
      refine q_ltE (fun y6 hy6 => ?_)
      refine q_iinc (v := y6) (lv' := [(2, .int y6), (0, .ref 24), (1, .ref 1)]) 2 eX7_skipBlanks_33 rfl hy6 (by decide) rfl ?_
      refine q_goto (tgt := 2) eX7_skipBlanks_36 (by decide) ?_
      exact q_sub [1, 2, 0] rfl (hr2 y6 w5)
set_option maxHeartbeats 4000000 in
set_option maxRecDepth 100000 in
theorem jX7_skipBlanks_l2 (X : q_X) (l : Launch) : ∀ x2 w, q_J X S_C l mX7_skipBlanks 1 q_tV 2 [(0, .ref 24), (1, .ref 1), (2, .int x2)] [] w (fX7_skipBlanks_l2 x2 w) := by
  exact q_it_ind (fun rc => ∀ x2 w, q_J X S_C l mX7_skipBlanks 1 q_tV 2 [(0, .ref 24), (1, .ref 1), (2, .int x2)] [] w (rc x2 w)) _ _ (fun _ _ => q_none) (fun rc hrc => jX7_skipBlanks_h2 X l rc hrc) q_N
def fX7_skipBlanks (w : q_W) : Option (Unit × q_W) :=
  fX7_skipBlanks_l2 0 w
set_option maxHeartbeats 4000000 in
set_option maxRecDepth 100000 in
theorem kX7_skipBlanks (X : q_X) (l : Launch) (w : q_W) : q_Ct X S_C l mX7_skipBlanks 1 q_tV [.ref 24, .ref 1] w (fX7_skipBlanks w) := by
  refine q_intro (lv := [(0, .ref 24), (1, .ref 1)]) (by decide +kernel) rfl (Nat.le_of_ble_eq_true rfl) rfl ?_
  refine q_iconst eX7_skipBlanks_0 kiconst_0 ?_
  refine q_istore_n (lv' := [(2, .int 0), (0, .ref 24), (1, .ref 1)]) eX7_skipBlanks_1 rfl (by decide) rfl ?_
  exact q_sub [1, 2, 0] rfl (jX7_skipBlanks_l2 X l 0 w)
def fX7_scan_n46 (rec9 : Int32 → Int32 → q_W → Option (Unit × q_W)) (x2 : Int32) (x3 : Int32) (w : q_W) : Option (Unit × q_W) :=
  if q_inb x3 501 then
  q_lt (q_sI w 26 (q_ix x3) x2) fun w1 =>
  if q_inb x3 501 then
  q_lt (q_sL w1 28 (q_ix x3) (w1.2.2 24 5)) fun w2 =>
  q_lt (x3 + 1) fun y3 =>
  rec9 x2 y3 w2
  else none
  else none
set_option maxHeartbeats 4000000 in
set_option maxRecDepth 100000 in
theorem jX7_scan_n46 (X : q_X) (l : Launch) (rec9 : Int32 → Int32 → q_W → Option (Unit × q_W)) (hr9 : ∀ x2 x3 w, q_J X S_C l mX7_scan 6 q_tV 9 [(0, .ref 24), (1, .ref 1), (2, .int x2), (3, .int x3)] [] w (rec9 x2 x3 w)) (x2 : Int32) (x3 : Int32) (w : q_W) : q_J X S_C l mX7_scan 6 q_tV 46 [(0, .ref 24), (1, .ref 1), (2, .int x2), (3, .int x3)] [] w (fX7_scan_n46 rec9 x2 x3 w) := by
  refine q_aload_n 0 eX7_scan_46 rfl rfl ?_
  refine q_getG (v := 26) eX7_scan_47 fl_7_13 tC_24 rfl gC_24_1 ?_
  refine q_iload_n 3 eX7_scan_50 rfl rfl ?_
  refine q_iload_n 2 eX7_scan_51 rfl rfl ?_
  refine q_iast eX7_scan_52 tC_26 nC_26 ?_
  refine q_ltW (fun w1 => ?_)
  refine q_aload_n 0 eX7_scan_53 rfl rfl ?_
  refine q_getG (v := 28) eX7_scan_54 fl_7_20 tC_24 rfl gC_24_3 ?_
  refine q_iload_n 3 eX7_scan_57 rfl rfl ?_
  refine q_aload_n 0 eX7_scan_58 rfl rfl ?_
  refine q_getL eX7_scan_59 fl_7_47 tC_24 rfl ?_
  refine q_last eX7_scan_62 tC_28 nC_28 ?_
  refine q_ltW (fun w2 => ?_)
  refine q_ltE (fun y3 hy3 => ?_)
  refine q_iinc (v := y3) (lv' := [(3, .int y3), (0, .ref 24), (1, .ref 1), (2, .int x2)]) 3 eX7_scan_63 rfl hy3 (by decide) rfl ?_
  refine q_goto (tgt := 9) eX7_scan_66 (by decide) ?_
  exact q_sub [1, 2, 3, 0] rfl (hr9 x2 y3 w2)
def fX7_scan_h9 (rec9 : Int32 → Int32 → q_W → Option (Unit × q_W)) (x2 : Int32) (x3 : Int32) (w : q_W) : Option (Unit × q_W) :=
  if 501 ≤ x3 then
    some ((), w)
  else
    if x2 = 0 then
      fX7_scan_n46 rec9 x2 x3 w
    else
      if x2 = (-1) then
        fX7_scan_n46 rec9 x2 x3 w
      else
        q_b (fX7_skipBlanks w) fun r1 w2 =>
        if q_inb x3 501 then
        q_lt (q_sI w2 27 (q_ix x3) (w2.1 24 4)) fun w3 =>
        q_b (fX7_scanToken w3) fun r4 w5 =>
        fX7_scan_n46 rec9 r4 x3 w5
        else none
def fX7_scan_l9 : Int32 → Int32 → q_W → Option (Unit × q_W) := q_it q_N (fX7_scan_h9) (fun _ _ _ => none)
set_option maxHeartbeats 4000000 in
set_option maxRecDepth 100000 in
theorem jX7_scan_h9 (X : q_X) (l : Launch) (rec9 : Int32 → Int32 → q_W → Option (Unit × q_W)) (hr9 : ∀ x2 x3 w, q_J X S_C l mX7_scan 6 q_tV 9 [(0, .ref 24), (1, .ref 1), (2, .int x2), (3, .int x3)] [] w (rec9 x2 x3 w)) : ∀ x2 x3 w, q_J X S_C l mX7_scan 6 q_tV 9 [(0, .ref 24), (1, .ref 1), (2, .int x2), (3, .int x3)] [] w (fX7_scan_h9 rec9 x2 x3 w) := by
  intro x2 x3 w
  refine q_iload_n 3 eX7_scan_9 rfl rfl ?_
  refine q_sipush eX7_scan_10 ksipush_501 ?_
  refine q_icmp_ge (tgt := 69) eX7_scan_13 (by decide) (fun _ => ?_) (fun _ => ?_)
  · exact q_return eX7_scan_69 rfl
  · refine q_iload_n 2 eX7_scan_16 rfl rfl ?_
    refine q_if_eq (tgt := 46) eX7_scan_17 (by decide) (fun _ => ?_) (fun _ => ?_)
    · exact q_sub [0, 1, 2, 3] rfl (jX7_scan_n46 X l rec9 hr9 x2 x3 w)
    · refine q_iload_n 2 eX7_scan_20 rfl rfl ?_
      refine q_iconst eX7_scan_21 kiconst_m1 ?_
      refine q_icmp_eq (tgt := 46) eX7_scan_22 (by decide) (fun _ => ?_) (fun _ => ?_)
      · exact q_sub [0, 1, 2, 3] rfl (jX7_scan_n46 X l rec9 hr9 x2 x3 w)
      · refine q_aload_n 0 eX7_scan_25 rfl rfl ?_
        refine q_aload_n 1 eX7_scan_26 rfl rfl ?_
        refine q_callVV (As := [.ref 1]) (st := []) eX7_scan_27 cv_7_39 (kX7_skipBlanks X l w) tC_24 rfl (by decide) rfl rfl (Nat.le_of_ble_eq_true rfl) (by decide) (fun r1 w2 => ?_)
        refine q_aload_n 0 eX7_scan_30 rfl rfl ?_
        refine q_getG (v := 27) eX7_scan_31 fl_7_17 tC_24 rfl gC_24_2 ?_
        refine q_iload_n 3 eX7_scan_34 rfl rfl ?_
        refine q_aload_n 0 eX7_scan_35 rfl rfl ?_
        refine q_getI eX7_scan_36 fl_7_35 tC_24 rfl ?_
        refine q_iast eX7_scan_39 tC_27 nC_27 ?_
        refine q_ltW (fun w3 => ?_)
        refine q_aload_n 0 eX7_scan_40 rfl rfl ?_
        refine q_aload_n 1 eX7_scan_41 rfl rfl ?_
        refine q_callVI (As := [.ref 1]) (st := []) eX7_scan_42 cv_7_43 (kX7_scanToken X l w3) tC_24 rfl (by decide) rfl rfl (Nat.le_of_ble_eq_true rfl) (by decide) (fun r4 w5 => ?_)
        refine q_istore_n (lv' := [(2, .int r4), (0, .ref 24), (1, .ref 1), (3, .int x3)]) eX7_scan_45 rfl (by decide) rfl ?_
        exact q_sub [1, 2, 0, 3] rfl (jX7_scan_n46 X l rec9 hr9 r4 x3 w5)
set_option maxHeartbeats 4000000 in
set_option maxRecDepth 100000 in
theorem jX7_scan_l9 (X : q_X) (l : Launch) : ∀ x2 x3 w, q_J X S_C l mX7_scan 6 q_tV 9 [(0, .ref 24), (1, .ref 1), (2, .int x2), (3, .int x3)] [] w (fX7_scan_l9 x2 x3 w) := by
  exact q_it_ind (fun rc => ∀ x2 x3 w, q_J X S_C l mX7_scan 6 q_tV 9 [(0, .ref 24), (1, .ref 1), (2, .int x2), (3, .int x3)] [] w (rc x2 x3 w)) _ _ (fun _ _ _ => q_none) (fun rc hrc => jX7_scan_h9 X l rc hrc) q_N
def fX7_scan (w : q_W) : Option (Unit × q_W) :=
  q_lt (q_sI w 24 4 0) fun w1 =>
  fX7_scan_l9 1 0 w1
set_option maxHeartbeats 4000000 in
set_option maxRecDepth 100000 in
theorem kX7_scan (X : q_X) (l : Launch) (w : q_W) : q_Ct X S_C l mX7_scan 6 q_tV [.ref 24, .ref 1] w (fX7_scan w) := by
  refine q_intro (lv := [(0, .ref 24), (1, .ref 1)]) (by decide +kernel) rfl (Nat.le_of_ble_eq_true rfl) rfl ?_
  refine q_aload_n 0 eX7_scan_0 rfl rfl ?_
  refine q_iconst eX7_scan_1 kiconst_0 ?_
  refine q_putI eX7_scan_2 fp_7_35 tC_24 rfl ⟨rfl, rfl⟩ ?_
  refine q_ltW (fun w1 => ?_)
  refine q_iconst eX7_scan_5 kiconst_1 ?_
  refine q_istore_n (lv' := [(2, .int 1), (0, .ref 24), (1, .ref 1)]) eX7_scan_6 rfl (by decide) rfl ?_
  refine q_iconst eX7_scan_7 kiconst_0 ?_
  refine q_istore_n (lv' := [(3, .int 0), (2, .int 1), (0, .ref 24), (1, .ref 1)]) eX7_scan_8 rfl (by decide) rfl ?_
  exact q_sub [2, 3, 1, 0] rfl (jX7_scan_l9 X l 1 0 w1)
def fX5_readInto_n98 (q1 : Nat) (w : q_W) : Option (Int32 × q_W) :=
  if (w.1 23 7) = 0 then
    q_lt (q_sI w 23 7 (w.1 23 9)) fun w1 =>
    q_lt (q_sI w1 23 8 (w1.1 23 10)) fun w2 =>
    some ((w2.1 23 7), w2)
  else
    some ((w.1 23 7), w)
set_option maxHeartbeats 4000000 in
set_option maxRecDepth 100000 in
theorem jX5_readInto_n98 (X : q_X) (l : Launch) (q1 : Nat) (h1 : cC q1 = 4) (w : q_W) : q_J X S_C l mX5_readInto 56 q_tI 98 [(0, .ref 23)] [] w (fX5_readInto_n98 q1 w) := by
  refine q_aload_n 0 eX5_readInto_98 rfl rfl ?_
  refine q_getI eX5_readInto_99 fl_5_36 tC_23 rfl ?_
  refine q_if_ne (tgt := 121) eX5_readInto_102 (by decide) (fun _ => ?_) (fun _ => ?_)
  · refine q_aload_n 0 eX5_readInto_105 rfl rfl ?_
    refine q_aload_n 0 eX5_readInto_106 rfl rfl ?_
    refine q_getI eX5_readInto_107 fl_5_40 tC_23 rfl ?_
    refine q_putI eX5_readInto_110 fp_5_36 tC_23 rfl ⟨rfl, rfl⟩ ?_
    refine q_ltW (fun w1 => ?_)
    refine q_aload_n 0 eX5_readInto_113 rfl rfl ?_
    refine q_aload_n 0 eX5_readInto_114 rfl rfl ?_
    refine q_getI eX5_readInto_115 fl_5_70 tC_23 rfl ?_
    refine q_putI eX5_readInto_118 fp_5_73 tC_23 rfl ⟨rfl, rfl⟩ ?_
    refine q_ltW (fun w2 => ?_)
    refine q_aload_n 0 eX5_readInto_121 rfl rfl ?_
    refine q_getI eX5_readInto_122 fl_5_36 tC_23 rfl ?_
    exact q_ireturn eX5_readInto_125 rfl
  · refine q_aload_n 0 eX5_readInto_121 rfl rfl ?_
    refine q_getI eX5_readInto_122 fl_5_36 tC_23 rfl ?_
    exact q_ireturn eX5_readInto_125 rfl
def fX5_readInto_n86 (q1 : Nat) (w : q_W) : Option (Int32 × q_W) :=
  if (w.1 23 5) = 0 then
    fX5_readInto_n98 q1 w
  else
    q_b (fX5_fail 1 w) fun r1 w2 =>
    fX5_readInto_n98 q1 w2
set_option maxHeartbeats 4000000 in
set_option maxRecDepth 100000 in
theorem jX5_readInto_n86 (X : q_X) (l : Launch) (q1 : Nat) (h1 : cC q1 = 4) (w : q_W) : q_J X S_C l mX5_readInto 56 q_tI 86 [(0, .ref 23)] [] w (fX5_readInto_n86 q1 w) := by
  refine q_aload_n 0 eX5_readInto_86 rfl rfl ?_
  refine q_getI eX5_readInto_87 fl_5_54 tC_23 rfl ?_
  refine q_if_eq (tgt := 98) eX5_readInto_90 (by decide) (fun _ => ?_) (fun _ => ?_)
  · exact q_sub [0] rfl (jX5_readInto_n98 X l q1 h1 w)
  · refine q_aload_n 0 eX5_readInto_93 rfl rfl ?_
    refine q_iconst eX5_readInto_94 kiconst_1 ?_
    refine q_callVV (As := [.int 1]) (st := []) eX5_readInto_95 cv_5_66 (kX5_fail X l 1 w) tC_23 rfl (by decide) rfl rfl (Nat.le_of_ble_eq_true rfl) (by decide) (fun r1 w2 => ?_)
    exact q_sub [0] rfl (jX5_readInto_n98 X l q1 h1 w2)
def fX5_readInto_h61 (q1 : Nat) (rec61 : Int32 → q_W → Option (Int32 × q_W)) (x3 : Int32) (w : q_W) : Option (Int32 × q_W) :=
  if 501 ≤ x3 then
    fX5_readInto_n86 q1 w
  else
    if (w.1 23 5) = 3 then
      q_b (fX5_readPattern w) fun r1 w2 =>
      q_lt (x3 + 1) fun y3 =>
      rec61 y3 w2
    else
      fX5_readInto_n86 q1 w
def fX5_readInto_l61 (q1 : Nat) : Int32 → q_W → Option (Int32 × q_W) := q_it q_N (fX5_readInto_h61 q1) (fun _ _ => none)
set_option maxHeartbeats 4000000 in
set_option maxRecDepth 100000 in
theorem jX5_readInto_h61 (X : q_X) (l : Launch) (q1 : Nat) (h1 : cC q1 = 4) (rec61 : Int32 → q_W → Option (Int32 × q_W)) (hr61 : ∀ x3 w, q_J X S_C l mX5_readInto 56 q_tI 61 [(0, .ref 23), (3, .int x3)] [] w (rec61 x3 w)) : ∀ x3 w, q_J X S_C l mX5_readInto 56 q_tI 61 [(0, .ref 23), (3, .int x3)] [] w (fX5_readInto_h61 q1 rec61 x3 w) := by
  intro x3 w
  refine q_iload_n 1 eX5_readInto_61 rfl rfl ?_
  refine q_sipush eX5_readInto_62 ksipush_501 ?_
  refine q_icmp_ge (tgt := 86) eX5_readInto_65 (by decide) (fun _ => ?_) (fun _ => ?_)
  · exact q_sub [0] rfl (jX5_readInto_n86 X l q1 h1 w)
  · refine q_aload_n 0 eX5_readInto_68 rfl rfl ?_
    refine q_getI eX5_readInto_69 fl_5_54 tC_23 rfl ?_
    refine q_iconst eX5_readInto_72 kiconst_3 ?_
    refine q_icmp_ne (tgt := 86) eX5_readInto_73 (by decide) (fun _ => ?_) (fun _ => ?_)
    · refine q_aload_n 0 eX5_readInto_76 rfl rfl ?_
      refine q_callVV (As := []) (st := []) eX5_readInto_77 cv_5_63 (kX5_readPattern X l w) tC_23 rfl (by decide) rfl rfl (Nat.le_of_ble_eq_true rfl) (by decide) (fun r1 w2 => ?_)
      refine q_ltE (fun y3 hy3 => ?_)
      refine q_iinc (v := y3) (lv' := [(3, .int y3), (0, .ref 23)]) 1 eX5_readInto_80 rfl hy3 (by decide) rfl ?_
      refine q_goto (tgt := 61) eX5_readInto_83 (by decide) ?_
      exact q_sub [1, 0] rfl (hr61 y3 w2)
    · exact q_sub [0] rfl (jX5_readInto_n86 X l q1 h1 w)
set_option maxHeartbeats 4000000 in
set_option maxRecDepth 100000 in
theorem jX5_readInto_l61 (X : q_X) (l : Launch) (q1 : Nat) (h1 : cC q1 = 4) : ∀ x3 w, q_J X S_C l mX5_readInto 56 q_tI 61 [(0, .ref 23), (3, .int x3)] [] w (fX5_readInto_l61 q1 x3 w) := by
  exact q_it_ind (fun rc => ∀ x3 w, q_J X S_C l mX5_readInto 56 q_tI 61 [(0, .ref 23), (3, .int x3)] [] w (rc x3 w)) _ _ (fun _ _ => q_none) (fun rc hrc => jX5_readInto_h61 X l q1 h1 rc hrc) q_N
def fX5_readInto (q1 : Nat) (w : q_W) : Option (Int32 × q_W) :=
  if cC q1 = 4 then
  q_lt (q_sR w 23 11 q1) fun w1 =>
  if cC (w1.2.1 23 11) = 4 then
  q_b (fX4_clear (w1.2.1 23 11) w1) fun r3 w4 =>
  q_lt (q_sI w4 23 7 0) fun w5 =>
  q_lt (q_sI w5 23 9 0) fun w6 =>
  q_b (fX7_scan w6) fun r7 w8 =>
  q_lt (q_sI w8 23 4 0) fun w9 =>
  q_b (fX7_kindAt 0 w9) fun r10 w11 =>
  q_lt (q_sI w11 23 5 r10) fun w12 =>
  q_b (fX7_startAt 0 w12) fun r13 w14 =>
  q_lt (q_sI w14 23 6 r13) fun w15 =>
  fX5_readInto_l61 q1 0 w15
  else none
  else none
set_option maxHeartbeats 4000000 in
set_option maxRecDepth 100000 in
theorem kX5_readInto (X : q_X) (l : Launch) (q1 : Nat) (w : q_W) : q_Ct X S_C l mX5_readInto 56 q_tI [.ref 23, .ref q1, .ref 1] w (fX5_readInto q1 w) := by
  refine q_intro (lv := [(0, .ref 23), (1, .ref q1), (2, .ref 1)]) (by decide +kernel) rfl (Nat.le_of_ble_eq_true rfl) rfl ?_
  refine q_ck (fun h1 => ?_)
  refine q_aload_n 0 eX5_readInto_0 rfl rfl ?_
  refine q_aload_n 1 eX5_readInto_1 rfl rfl ?_
  refine q_putR eX5_readInto_2 fp_5_29 tC_23 rfl ⟨rfl, rfl⟩ ?_
  refine q_ltW (fun w1 => ?_)
  refine q_aload_n 0 eX5_readInto_5 rfl rfl ?_
  refine q_getR eX5_readInto_6 fl_5_29 tC_23 rfl ?_
  refine q_ck (fun g2 => ?_)
  refine q_callVV (As := []) (st := []) eX5_readInto_9 cv_5_33 (kX4_clear X l (w1.2.1 23 11) w1) g2 rfl (by decide) rfl rfl (Nat.le_of_ble_eq_true rfl) (by decide) (fun r3 w4 => ?_)
  refine q_aload_n 0 eX5_readInto_12 rfl rfl ?_
  refine q_iconst eX5_readInto_13 kiconst_0 ?_
  refine q_putI eX5_readInto_14 fp_5_36 tC_23 rfl ⟨rfl, rfl⟩ ?_
  refine q_ltW (fun w5 => ?_)
  refine q_aload_n 0 eX5_readInto_17 rfl rfl ?_
  refine q_iconst eX5_readInto_18 kiconst_0 ?_
  refine q_putI eX5_readInto_19 fp_5_40 tC_23 rfl ⟨rfl, rfl⟩ ?_
  refine q_ltW (fun w6 => ?_)
  refine q_aload_n 0 eX5_readInto_22 rfl rfl ?_
  refine q_getG (v := 24) eX5_readInto_23 fl_5_12 tC_23 rfl gC_23_0 ?_
  refine q_aload_n 2 eX5_readInto_26 rfl rfl ?_
  refine q_callVV (As := [.ref 1]) (st := []) eX5_readInto_27 cv_5_43 (kX7_scan X l w6) tC_24 rfl (by decide) rfl rfl (Nat.le_of_ble_eq_true rfl) (by decide) (fun r7 w8 => ?_)
  refine q_aload_n 0 eX5_readInto_30 rfl rfl ?_
  refine q_iconst eX5_readInto_31 kiconst_0 ?_
  refine q_putI eX5_readInto_32 fp_5_47 tC_23 rfl ⟨rfl, rfl⟩ ?_
  refine q_ltW (fun w9 => ?_)
  refine q_aload_n 0 eX5_readInto_35 rfl rfl ?_
  refine q_aload_n 0 eX5_readInto_36 rfl rfl ?_
  refine q_getG (v := 24) eX5_readInto_37 fl_5_12 tC_23 rfl gC_23_0 ?_
  refine q_iconst eX5_readInto_40 kiconst_0 ?_
  refine q_callVI (As := [.int 0]) (st := [.ref 23]) eX5_readInto_41 cv_5_50 (kX7_kindAt X l 0 w9) tC_24 rfl (by decide) rfl rfl (Nat.le_of_ble_eq_true rfl) (by decide) (fun r10 w11 => ?_)
  refine q_putI eX5_readInto_44 fp_5_54 tC_23 rfl ⟨rfl, rfl⟩ ?_
  refine q_ltW (fun w12 => ?_)
  refine q_aload_n 0 eX5_readInto_47 rfl rfl ?_
  refine q_aload_n 0 eX5_readInto_48 rfl rfl ?_
  refine q_getG (v := 24) eX5_readInto_49 fl_5_12 tC_23 rfl gC_23_0 ?_
  refine q_iconst eX5_readInto_52 kiconst_0 ?_
  refine q_callVI (As := [.int 0]) (st := [.ref 23]) eX5_readInto_53 cv_5_57 (kX7_startAt X l 0 w12) tC_24 rfl (by decide) rfl rfl (Nat.le_of_ble_eq_true rfl) (by decide) (fun r13 w14 => ?_)
  refine q_putI eX5_readInto_56 fp_5_60 tC_23 rfl ⟨rfl, rfl⟩ ?_
  refine q_ltW (fun w15 => ?_)
  refine q_iconst eX5_readInto_59 kiconst_0 ?_
  refine q_istore_n (lv' := [(3, .int 0), (0, .ref 23), (1, .ref q1), (2, .ref 1)]) eX5_readInto_60 rfl (by decide) rfl ?_
  exact q_sub [1, 0] rfl (jX5_readInto_l61 X l q1 h1 0 w15)
def fX5_placeOfFault (w : q_W) : Option (Int32 × q_W) :=
  some ((w.1 23 8), w)
set_option maxHeartbeats 4000000 in
set_option maxRecDepth 100000 in
theorem kX5_placeOfFault (X : q_X) (l : Launch) (w : q_W) : q_Ct X S_C l mX5_placeOfFault 0 q_tI [.ref 23] w (fX5_placeOfFault w) := by
  refine q_intro (lv := [(0, .ref 23)]) (by decide +kernel) rfl (Nat.le_of_ble_eq_true rfl) rfl ?_
  refine q_aload_n 0 eX5_placeOfFault_0 rfl rfl ?_
  refine q_getI eX5_placeOfFault_1 fl_5_73 tC_23 rfl ?_
  exact q_ireturn eX5_placeOfFault_4 rfl
def fX8_isCell (a0 : Int32) (a1 : Int32) (w : q_W) : Option (Int32 × q_W) :=
  if a0 < 0 then
    some (0, w)
  else
    if 16 ≤ a0 then
      some (0, w)
    else
      if a1 < 0 then
        some (0, w)
      else
        if 16 ≤ a1 then
          some (0, w)
        else
          some (1, w)
set_option maxHeartbeats 4000000 in
set_option maxRecDepth 100000 in
theorem kX8_isCell (X : q_X) (l : Launch) (a0 : Int32) (a1 : Int32) (w : q_W) : q_Ct X S_C l mX8_isCell 0 q_tI [.int a0, .int a1] w (fX8_isCell a0 a1 w) := by
  refine q_intro (lv := [(0, .int a0), (1, .int a1)]) (by decide +kernel) rfl (Nat.le_of_ble_eq_true rfl) rfl ?_
  refine q_iload_n 0 eX8_isCell_0 rfl rfl ?_
  refine q_if_lt (tgt := 24) eX8_isCell_1 (by decide) (fun _ => ?_) (fun _ => ?_)
  · refine q_iconst eX8_isCell_24 kiconst_0 ?_
    exact q_zret eX8_isCell_25 rfl rfl
  · refine q_iload_n 0 eX8_isCell_4 rfl rfl ?_
    refine q_bipush eX8_isCell_5 kbipush_16 ?_
    refine q_icmp_ge (tgt := 24) eX8_isCell_7 (by decide) (fun _ => ?_) (fun _ => ?_)
    · refine q_iconst eX8_isCell_24 kiconst_0 ?_
      exact q_zret eX8_isCell_25 rfl rfl
    · refine q_iload_n 1 eX8_isCell_10 rfl rfl ?_
      refine q_if_lt (tgt := 24) eX8_isCell_11 (by decide) (fun _ => ?_) (fun _ => ?_)
      · refine q_iconst eX8_isCell_24 kiconst_0 ?_
        exact q_zret eX8_isCell_25 rfl rfl
      · refine q_iload_n 1 eX8_isCell_14 rfl rfl ?_
        refine q_bipush eX8_isCell_15 kbipush_16 ?_
        refine q_icmp_ge (tgt := 24) eX8_isCell_17 (by decide) (fun _ => ?_) (fun _ => ?_)
        · refine q_iconst eX8_isCell_24 kiconst_0 ?_
          exact q_zret eX8_isCell_25 rfl rfl
        · refine q_iconst eX8_isCell_20 kiconst_1 ?_
          refine q_goto (tgt := 25) eX8_isCell_21 (by decide) ?_
          exact q_zret eX8_isCell_25 rfl rfl
def fX8_holds (q0 : Nat) (a1 : Int32) (a2 : Int32) (w : q_W) : Option (Int32 × q_W) :=
  if cC q0 = 8 then
  if (w.1 q0 7) = a1 then
    if (w.1 q0 8) = a2 then
      some (1, w)
    else
      some (0, w)
  else
    some (0, w)
  else none
set_option maxHeartbeats 4000000 in
set_option maxRecDepth 100000 in
theorem kX8_holds (X : q_X) (l : Launch) (q0 : Nat) (a1 : Int32) (a2 : Int32) (w : q_W) : q_Ct X S_C l mX8_holds 0 q_tI [.ref q0, .int a1, .int a2] w (fX8_holds q0 a1 a2 w) := by
  refine q_intro (lv := [(0, .ref q0), (1, .int a1), (2, .int a2)]) (by decide +kernel) rfl (Nat.le_of_ble_eq_true rfl) rfl ?_
  refine q_ck (fun h0 => ?_)
  refine q_aload_n 0 eX8_holds_0 rfl rfl ?_
  refine q_getI eX8_holds_1 fl_8_22 h0 rfl ?_
  refine q_iload_n 1 eX8_holds_4 rfl rfl ?_
  refine q_icmp_ne (tgt := 20) eX8_holds_5 (by decide) (fun _ => ?_) (fun _ => ?_)
  · refine q_aload_n 0 eX8_holds_8 rfl rfl ?_
    refine q_getI eX8_holds_9 fl_8_26 h0 rfl ?_
    refine q_iload_n 2 eX8_holds_12 rfl rfl ?_
    refine q_icmp_ne (tgt := 20) eX8_holds_13 (by decide) (fun _ => ?_) (fun _ => ?_)
    · refine q_iconst eX8_holds_16 kiconst_1 ?_
      refine q_goto (tgt := 21) eX8_holds_17 (by decide) ?_
      exact q_zret eX8_holds_21 rfl rfl
    · refine q_iconst eX8_holds_20 kiconst_0 ?_
      exact q_zret eX8_holds_21 rfl rfl
  · refine q_iconst eX8_holds_20 kiconst_0 ?_
    exact q_zret eX8_holds_21 rfl rfl
def fX8_keepAs (q0 : Nat) (a1 : Int32) (a2 : Int32) (w : q_W) : Option (Unit × q_W) :=
  if cC q0 = 8 then
  q_lt (q_sI w q0 7 a1) fun w1 =>
  q_lt (q_sI w1 q0 8 a2) fun w2 =>
  some ((), w2)
  else none
set_option maxHeartbeats 4000000 in
set_option maxRecDepth 100000 in
theorem kX8_keepAs (X : q_X) (l : Launch) (q0 : Nat) (a1 : Int32) (a2 : Int32) (w : q_W) : q_Ct X S_C l mX8_keepAs 0 q_tV [.ref q0, .int a1, .int a2] w (fX8_keepAs q0 a1 a2 w) := by
  refine q_intro (lv := [(0, .ref q0), (1, .int a1), (2, .int a2)]) (by decide +kernel) rfl (Nat.le_of_ble_eq_true rfl) rfl ?_
  refine q_ck (fun h0 => ?_)
  refine q_aload_n 0 eX8_keepAs_0 rfl rfl ?_
  refine q_iload_n 1 eX8_keepAs_1 rfl rfl ?_
  refine q_putI eX8_keepAs_2 fp_8_22 h0 rfl ⟨rfl, rfl⟩ ?_
  refine q_ltW (fun w1 => ?_)
  refine q_aload_n 0 eX8_keepAs_5 rfl rfl ?_
  refine q_iload_n 2 eX8_keepAs_6 rfl rfl ?_
  refine q_putI eX8_keepAs_7 fp_8_26 h0 rfl ⟨rfl, rfl⟩ ?_
  refine q_ltW (fun w2 => ?_)
  exact q_return eX8_keepAs_10 rfl
def fX8_fill_h7 (q0 : Nat) (rec7 : Int32 → q_W → Option (Unit × q_W)) (x3 : Int32) (w : q_W) : Option (Unit × q_W) :=
  if 256 ≤ x3 then
    some ((), w)
  else
    q_b (fX8_pointX q0 x3 w) fun r1 w2 =>
    q_b (fX8_pointY q0 x3 w2) fun r3 w4 =>
    q_b (fX0_colourOf r1 r3 w4) fun r5 w6 =>
    if q_inb x3 256 then
    q_lt (q_sI w6 (fC q0 0) (q_ix x3) r5) fun w7 =>
    q_lt (x3 + 1) fun y8 =>
    rec7 y8 w7
    else none
def fX8_fill_l7 (q0 : Nat) : Int32 → q_W → Option (Unit × q_W) := q_it q_N (fX8_fill_h7 q0) (fun _ _ => none)
set_option maxHeartbeats 4000000 in
set_option maxRecDepth 100000 in
theorem jX8_fill_h7 (X : q_X) (l : Launch) (q0 : Nat) (h0 : cC q0 = 8) (rec7 : Int32 → q_W → Option (Unit × q_W)) (hr7 : ∀ x3 w, q_J X S_C l mX8_fill 4 q_tV 7 [(0, .ref q0), (1, .ref 12), (3, .int x3)] [] w (rec7 x3 w)) : ∀ x3 w, q_J X S_C l mX8_fill 4 q_tV 7 [(0, .ref q0), (1, .ref 12), (3, .int x3)] [] w (fX8_fill_h7 q0 rec7 x3 w) := by
  intro x3 w
  refine q_iload_n 2 eX8_fill_7 rfl rfl ?_
  refine q_sipush eX8_fill_8 ksipush_256 ?_
  refine q_icmp_ge (tgt := 40) eX8_fill_11 (by decide) (fun _ => ?_) (fun _ => ?_)
  · exact q_return eX8_fill_40 rfl
  · refine q_aload_n 0 eX8_fill_14 rfl rfl ?_
    refine q_getG (v := (fC q0 0)) eX8_fill_15 fl_8_11 h0 rfl rfl ?_
    refine q_iload_n 2 eX8_fill_18 rfl rfl ?_
    refine q_aload_n 1 eX8_fill_19 rfl rfl ?_
    refine q_aload_n 0 eX8_fill_20 rfl rfl ?_
    refine q_iload_n 2 eX8_fill_21 rfl rfl ?_
    refine q_callVI (As := [.int x3]) (st := [.ref 12, .int x3, .ref (fC q0 0)]) eX8_fill_22 cv_8_32 (kX8_pointX X l q0 x3 w) h0 rfl (by decide) rfl rfl (Nat.le_of_ble_eq_true rfl) (by decide) (fun r1 w2 => ?_)
    refine q_aload_n 0 eX8_fill_25 rfl rfl ?_
    refine q_iload_n 2 eX8_fill_26 rfl rfl ?_
    refine q_callVI (As := [.int x3]) (st := [.int r1, .ref 12, .int x3, .ref (fC q0 0)]) eX8_fill_27 cv_8_36 (kX8_pointY X l q0 x3 w2) h0 rfl (by decide) rfl rfl (Nat.le_of_ble_eq_true rfl) (by decide) (fun r3 w4 => ?_)
    refine q_callVI (As := [.int r1, .int r3]) (st := [.int x3, .ref (fC q0 0)]) eX8_fill_30 cv_8_39 (kX0_colourOf X l r1 r3 w4) tC_12 rfl (by decide) rfl rfl (Nat.le_of_ble_eq_true rfl) (by decide) (fun r5 w6 => ?_)
    refine q_iast eX8_fill_33 (fxC_8_0 q0 h0) (flC_8_0 q0 h0) ?_
    refine q_ltW (fun w7 => ?_)
    refine q_ltE (fun y8 hy8 => ?_)
    refine q_iinc (v := y8) (lv' := [(3, .int y8), (0, .ref q0), (1, .ref 12)]) 2 eX8_fill_34 rfl hy8 (by decide) rfl ?_
    refine q_goto (tgt := 7) eX8_fill_37 (by decide) ?_
    exact q_sub [1, 2, 0] rfl (hr7 y8 w7)
set_option maxHeartbeats 4000000 in
set_option maxRecDepth 100000 in
theorem jX8_fill_l7 (X : q_X) (l : Launch) (q0 : Nat) (h0 : cC q0 = 8) : ∀ x3 w, q_J X S_C l mX8_fill 4 q_tV 7 [(0, .ref q0), (1, .ref 12), (3, .int x3)] [] w (fX8_fill_l7 q0 x3 w) := by
  exact q_it_ind (fun rc => ∀ x3 w, q_J X S_C l mX8_fill 4 q_tV 7 [(0, .ref q0), (1, .ref 12), (3, .int x3)] [] w (rc x3 w)) _ _ (fun _ _ => q_none) (fun rc hrc => jX8_fill_h7 X l q0 h0 rc hrc) q_N
def fX8_fill (q0 : Nat) (a2 : Int32) (w : q_W) : Option (Unit × q_W) :=
  if cC q0 = 8 then
  q_lt (q_sI w q0 6 a2) fun w1 =>
  fX8_fill_l7 q0 0 w1
  else none
set_option maxHeartbeats 4000000 in
set_option maxRecDepth 100000 in
theorem kX8_fill (X : q_X) (l : Launch) (q0 : Nat) (a2 : Int32) (w : q_W) : q_Ct X S_C l mX8_fill 4 q_tV [.ref q0, .ref 12, .int a2] w (fX8_fill q0 a2 w) := by
  refine q_intro (lv := [(0, .ref q0), (1, .ref 12), (2, .int a2)]) (by decide +kernel) rfl (Nat.le_of_ble_eq_true rfl) rfl ?_
  refine q_ck (fun h0 => ?_)
  refine q_aload_n 0 eX8_fill_0 rfl rfl ?_
  refine q_iload_n 2 eX8_fill_1 rfl rfl ?_
  refine q_putI eX8_fill_2 fp_8_29 h0 rfl ⟨rfl, rfl⟩ ?_
  refine q_ltW (fun w1 => ?_)
  refine q_iconst eX8_fill_5 kiconst_0 ?_
  refine q_istore_n (lv' := [(3, .int 0), (0, .ref q0), (1, .ref 12), (2, .int a2)]) eX8_fill_6 rfl (by decide) rfl ?_
  exact q_sub [1, 2, 0] rfl (jX8_fill_l7 X l q0 h0 0 w1)
def fX8_colourOf (q0 : Nat) (a1 : Int32) (a2 : Int32) (w : q_W) : Option (Int32 × q_W) :=
  if cC q0 = 8 then
  q_b (fX8_isCell a1 a2 w) fun r1 w2 =>
  if r1 = 0 then
    some ((-1), w2)
  else
    q_lt ((a1 * 16) + a2) fun y3 =>
    if q_inb y3 256 then
    some ((w2.1 (fC q0 0) (q_ix y3)), w2)
    else none
  else none
set_option maxHeartbeats 4000000 in
set_option maxRecDepth 100000 in
theorem kX8_colourOf (X : q_X) (l : Launch) (q0 : Nat) (a1 : Int32) (a2 : Int32) (w : q_W) : q_Ct X S_C l mX8_colourOf 1 q_tI [.ref q0, .int a1, .int a2] w (fX8_colourOf q0 a1 a2 w) := by
  refine q_intro (lv := [(0, .ref q0), (1, .int a1), (2, .int a2)]) (by decide +kernel) rfl (Nat.le_of_ble_eq_true rfl) rfl ?_
  refine q_ck (fun h0 => ?_)
  refine q_iload_n 1 eX8_colourOf_0 rfl rfl ?_
  refine q_iload_n 2 eX8_colourOf_1 rfl rfl ?_
  refine q_callSI (As := [.int a1, .int a2]) (st := []) eX8_colourOf_2 cv_8_45 (kX8_isCell X l a1 a2 w) rfl rfl (Nat.le_of_ble_eq_true rfl) (by decide) (fun r1 w2 => ?_)
  refine q_if_eq (tgt := 22) eX8_colourOf_5 (by decide) (fun _ => ?_) (fun _ => ?_)
  · refine q_iconst eX8_colourOf_22 kiconst_m1 ?_
    exact q_ireturn eX8_colourOf_23 rfl
  · refine q_aload_n 0 eX8_colourOf_8 rfl rfl ?_
    refine q_getG (v := (fC q0 0)) eX8_colourOf_9 fl_8_11 h0 rfl rfl ?_
    refine q_iload_n 1 eX8_colourOf_12 rfl rfl ?_
    refine q_bipush eX8_colourOf_13 kbipush_16 ?_
    refine q_imul eX8_colourOf_15 ?_
    refine q_iload_n 2 eX8_colourOf_16 rfl rfl ?_
    refine q_iadd eX8_colourOf_17 ?_
    refine q_ltI (fun y3 => ?_)
    refine q_iald eX8_colourOf_18 (fxC_8_0 q0 h0) (flC_8_0 q0 h0) ?_
    refine q_goto (tgt := 23) eX8_colourOf_19 (by decide) ?_
    exact q_ireturn eX8_colourOf_23 rfl
def fX8_areaOf_n24 (q0 : Nat) (rec4 : Int32 → Int32 → Int32 → q_W → Option (Int32 × q_W)) (x1 : Int32) (x2 : Int32) (x3 : Int32) (w : q_W) : Option (Int32 × q_W) :=
  q_lt (x3 + 1) fun y1 =>
  rec4 x1 x2 y1 w
set_option maxHeartbeats 4000000 in
set_option maxRecDepth 100000 in
theorem jX8_areaOf_n24 (X : q_X) (l : Launch) (q0 : Nat) (h0 : cC q0 = 8) (rec4 : Int32 → Int32 → Int32 → q_W → Option (Int32 × q_W)) (hr4 : ∀ x1 x2 x3 w, q_J X S_C l mX8_areaOf 0 q_tI 4 [(0, .ref q0), (1, .int x1), (2, .int x2), (3, .int x3)] [] w (rec4 x1 x2 x3 w)) (x1 : Int32) (x2 : Int32) (x3 : Int32) (w : q_W) : q_J X S_C l mX8_areaOf 0 q_tI 24 [(0, .ref q0), (1, .int x1), (2, .int x2), (3, .int x3)] [] w (fX8_areaOf_n24 q0 rec4 x1 x2 x3 w) := by
  refine q_ltE (fun y1 hy1 => ?_)
  refine q_iinc (v := y1) (lv' := [(3, .int y1), (0, .ref q0), (1, .int x1), (2, .int x2)]) 3 eX8_areaOf_24 rfl hy1 (by decide) rfl ?_
  refine q_goto (tgt := 4) eX8_areaOf_27 (by decide) ?_
  exact q_sub [1, 2, 3, 0] rfl (hr4 x1 x2 y1 w)
def fX8_areaOf_h4 (q0 : Nat) (rec4 : Int32 → Int32 → Int32 → q_W → Option (Int32 × q_W)) (x1 : Int32) (x2 : Int32) (x3 : Int32) (w : q_W) : Option (Int32 × q_W) :=
  if 256 ≤ x3 then
    some (x2, w)
  else
    if q_inb x3 256 then
    if (w.1 (fC q0 0) (q_ix x3)) = x1 then
      q_lt (x2 + 1) fun y1 =>
      fX8_areaOf_n24 q0 rec4 x1 y1 x3 w
    else
      fX8_areaOf_n24 q0 rec4 x1 x2 x3 w
    else none
def fX8_areaOf_l4 (q0 : Nat) : Int32 → Int32 → Int32 → q_W → Option (Int32 × q_W) := q_it q_N (fX8_areaOf_h4 q0) (fun _ _ _ _ => none)
set_option maxHeartbeats 4000000 in
set_option maxRecDepth 100000 in
theorem jX8_areaOf_h4 (X : q_X) (l : Launch) (q0 : Nat) (h0 : cC q0 = 8) (rec4 : Int32 → Int32 → Int32 → q_W → Option (Int32 × q_W)) (hr4 : ∀ x1 x2 x3 w, q_J X S_C l mX8_areaOf 0 q_tI 4 [(0, .ref q0), (1, .int x1), (2, .int x2), (3, .int x3)] [] w (rec4 x1 x2 x3 w)) : ∀ x1 x2 x3 w, q_J X S_C l mX8_areaOf 0 q_tI 4 [(0, .ref q0), (1, .int x1), (2, .int x2), (3, .int x3)] [] w (fX8_areaOf_h4 q0 rec4 x1 x2 x3 w) := by
  intro x1 x2 x3 w
  refine q_iload_n 3 eX8_areaOf_4 rfl rfl ?_
  refine q_sipush eX8_areaOf_5 ksipush_256 ?_
  refine q_icmp_ge (tgt := 30) eX8_areaOf_8 (by decide) (fun _ => ?_) (fun _ => ?_)
  · refine q_iload_n 2 eX8_areaOf_30 rfl rfl ?_
    exact q_ireturn eX8_areaOf_31 rfl
  · refine q_aload_n 0 eX8_areaOf_11 rfl rfl ?_
    refine q_getG (v := (fC q0 0)) eX8_areaOf_12 fl_8_11 h0 rfl rfl ?_
    refine q_iload_n 3 eX8_areaOf_15 rfl rfl ?_
    refine q_iald eX8_areaOf_16 (fxC_8_0 q0 h0) (flC_8_0 q0 h0) ?_
    refine q_iload_n 1 eX8_areaOf_17 rfl rfl ?_
    refine q_icmp_ne (tgt := 24) eX8_areaOf_18 (by decide) (fun _ => ?_) (fun _ => ?_)
    · refine q_ltE (fun y1 hy1 => ?_)
      refine q_iinc (v := y1) (lv' := [(2, .int y1), (0, .ref q0), (1, .int x1), (3, .int x3)]) 2 eX8_areaOf_21 rfl hy1 (by decide) rfl ?_
      exact q_sub [1, 2, 0, 3] rfl (jX8_areaOf_n24 X l q0 h0 rec4 hr4 x1 y1 x3 w)
    · exact q_sub [0, 1, 2, 3] rfl (jX8_areaOf_n24 X l q0 h0 rec4 hr4 x1 x2 x3 w)
set_option maxHeartbeats 4000000 in
set_option maxRecDepth 100000 in
theorem jX8_areaOf_l4 (X : q_X) (l : Launch) (q0 : Nat) (h0 : cC q0 = 8) : ∀ x1 x2 x3 w, q_J X S_C l mX8_areaOf 0 q_tI 4 [(0, .ref q0), (1, .int x1), (2, .int x2), (3, .int x3)] [] w (fX8_areaOf_l4 q0 x1 x2 x3 w) := by
  exact q_it_ind (fun rc => ∀ x1 x2 x3 w, q_J X S_C l mX8_areaOf 0 q_tI 4 [(0, .ref q0), (1, .int x1), (2, .int x2), (3, .int x3)] [] w (rc x1 x2 x3 w)) _ _ (fun _ _ _ _ => q_none) (fun rc hrc => jX8_areaOf_h4 X l q0 h0 rc hrc) q_N
def fX8_areaOf (q0 : Nat) (a1 : Int32) (w : q_W) : Option (Int32 × q_W) :=
  if cC q0 = 8 then
  fX8_areaOf_l4 q0 a1 0 0 w
  else none
set_option maxHeartbeats 4000000 in
set_option maxRecDepth 100000 in
theorem kX8_areaOf (X : q_X) (l : Launch) (q0 : Nat) (a1 : Int32) (w : q_W) : q_Ct X S_C l mX8_areaOf 0 q_tI [.ref q0, .int a1] w (fX8_areaOf q0 a1 w) := by
  refine q_intro (lv := [(0, .ref q0), (1, .int a1)]) (by decide +kernel) rfl (Nat.le_of_ble_eq_true rfl) rfl ?_
  refine q_ck (fun h0 => ?_)
  refine q_iconst eX8_areaOf_0 kiconst_0 ?_
  refine q_istore_n (lv' := [(2, .int 0), (0, .ref q0), (1, .int a1)]) eX8_areaOf_1 rfl (by decide) rfl ?_
  refine q_iconst eX8_areaOf_2 kiconst_0 ?_
  refine q_istore_n (lv' := [(3, .int 0), (2, .int 0), (0, .ref q0), (1, .int a1)]) eX8_areaOf_3 rfl (by decide) rfl ?_
  exact q_sub [2, 3, 1, 0] rfl (jX8_areaOf_l4 X l q0 h0 a1 0 0 w)
def fX8_cellsUnlike_n29 (q0 : Nat) (q1 : Nat) (rec4 : Int32 → Int32 → q_W → Option (Int32 × q_W)) (x2 : Int32) (x3 : Int32) (w : q_W) : Option (Int32 × q_W) :=
  q_lt (x3 + 1) fun y1 =>
  rec4 x2 y1 w
set_option maxHeartbeats 4000000 in
set_option maxRecDepth 100000 in
theorem jX8_cellsUnlike_n29 (X : q_X) (l : Launch) (q0 : Nat) (q1 : Nat) (h0 : cC q0 = 8) (h1 : cC q1 = 8) (rec4 : Int32 → Int32 → q_W → Option (Int32 × q_W)) (hr4 : ∀ x2 x3 w, q_J X S_C l mX8_cellsUnlike 0 q_tI 4 [(0, .ref q0), (1, .ref q1), (2, .int x2), (3, .int x3)] [] w (rec4 x2 x3 w)) (x2 : Int32) (x3 : Int32) (w : q_W) : q_J X S_C l mX8_cellsUnlike 0 q_tI 29 [(0, .ref q0), (1, .ref q1), (2, .int x2), (3, .int x3)] [] w (fX8_cellsUnlike_n29 q0 q1 rec4 x2 x3 w) := by
  refine q_ltE (fun y1 hy1 => ?_)
  refine q_iinc (v := y1) (lv' := [(3, .int y1), (0, .ref q0), (1, .ref q1), (2, .int x2)]) 3 eX8_cellsUnlike_29 rfl hy1 (by decide) rfl ?_
  refine q_goto (tgt := 4) eX8_cellsUnlike_32 (by decide) ?_
  exact q_sub [1, 2, 3, 0] rfl (hr4 x2 y1 w)
def fX8_cellsUnlike_h4 (q0 : Nat) (q1 : Nat) (rec4 : Int32 → Int32 → q_W → Option (Int32 × q_W)) (x2 : Int32) (x3 : Int32) (w : q_W) : Option (Int32 × q_W) :=
  if 256 ≤ x3 then
    some (x2, w)
  else
    if q_inb x3 256 then
    if q_inb x3 256 then
    if (w.1 (fC q0 0) (q_ix x3)) = (w.1 (fC q1 0) (q_ix x3)) then
      fX8_cellsUnlike_n29 q0 q1 rec4 x2 x3 w
    else
      q_lt (x2 + 1) fun y1 =>
      fX8_cellsUnlike_n29 q0 q1 rec4 y1 x3 w
    else none
    else none
def fX8_cellsUnlike_l4 (q0 : Nat) (q1 : Nat) : Int32 → Int32 → q_W → Option (Int32 × q_W) := q_it q_N (fX8_cellsUnlike_h4 q0 q1) (fun _ _ _ => none)
set_option maxHeartbeats 4000000 in
set_option maxRecDepth 100000 in
theorem jX8_cellsUnlike_h4 (X : q_X) (l : Launch) (q0 : Nat) (q1 : Nat) (h0 : cC q0 = 8) (h1 : cC q1 = 8) (rec4 : Int32 → Int32 → q_W → Option (Int32 × q_W)) (hr4 : ∀ x2 x3 w, q_J X S_C l mX8_cellsUnlike 0 q_tI 4 [(0, .ref q0), (1, .ref q1), (2, .int x2), (3, .int x3)] [] w (rec4 x2 x3 w)) : ∀ x2 x3 w, q_J X S_C l mX8_cellsUnlike 0 q_tI 4 [(0, .ref q0), (1, .ref q1), (2, .int x2), (3, .int x3)] [] w (fX8_cellsUnlike_h4 q0 q1 rec4 x2 x3 w) := by
  intro x2 x3 w
  refine q_iload_n 3 eX8_cellsUnlike_4 rfl rfl ?_
  refine q_sipush eX8_cellsUnlike_5 ksipush_256 ?_
  refine q_icmp_ge (tgt := 35) eX8_cellsUnlike_8 (by decide) (fun _ => ?_) (fun _ => ?_)
  · refine q_iload_n 2 eX8_cellsUnlike_35 rfl rfl ?_
    exact q_ireturn eX8_cellsUnlike_36 rfl
  · refine q_aload_n 0 eX8_cellsUnlike_11 rfl rfl ?_
    refine q_getG (v := (fC q0 0)) eX8_cellsUnlike_12 fl_8_11 h0 rfl rfl ?_
    refine q_iload_n 3 eX8_cellsUnlike_15 rfl rfl ?_
    refine q_iald eX8_cellsUnlike_16 (fxC_8_0 q0 h0) (flC_8_0 q0 h0) ?_
    refine q_aload_n 1 eX8_cellsUnlike_17 rfl rfl ?_
    refine q_getG (v := (fC q1 0)) eX8_cellsUnlike_18 fl_8_11 h1 rfl rfl ?_
    refine q_iload_n 3 eX8_cellsUnlike_21 rfl rfl ?_
    refine q_iald eX8_cellsUnlike_22 (fxC_8_0 q1 h1) (flC_8_0 q1 h1) ?_
    refine q_icmp_eq (tgt := 29) eX8_cellsUnlike_23 (by decide) (fun _ => ?_) (fun _ => ?_)
    · exact q_sub [0, 1, 2, 3] rfl (jX8_cellsUnlike_n29 X l q0 q1 h0 h1 rec4 hr4 x2 x3 w)
    · refine q_ltE (fun y1 hy1 => ?_)
      refine q_iinc (v := y1) (lv' := [(2, .int y1), (0, .ref q0), (1, .ref q1), (3, .int x3)]) 2 eX8_cellsUnlike_26 rfl hy1 (by decide) rfl ?_
      exact q_sub [1, 2, 0, 3] rfl (jX8_cellsUnlike_n29 X l q0 q1 h0 h1 rec4 hr4 y1 x3 w)
set_option maxHeartbeats 4000000 in
set_option maxRecDepth 100000 in
theorem jX8_cellsUnlike_l4 (X : q_X) (l : Launch) (q0 : Nat) (q1 : Nat) (h0 : cC q0 = 8) (h1 : cC q1 = 8) : ∀ x2 x3 w, q_J X S_C l mX8_cellsUnlike 0 q_tI 4 [(0, .ref q0), (1, .ref q1), (2, .int x2), (3, .int x3)] [] w (fX8_cellsUnlike_l4 q0 q1 x2 x3 w) := by
  exact q_it_ind (fun rc => ∀ x2 x3 w, q_J X S_C l mX8_cellsUnlike 0 q_tI 4 [(0, .ref q0), (1, .ref q1), (2, .int x2), (3, .int x3)] [] w (rc x2 x3 w)) _ _ (fun _ _ _ => q_none) (fun rc hrc => jX8_cellsUnlike_h4 X l q0 q1 h0 h1 rc hrc) q_N
def fX8_cellsUnlike (q0 : Nat) (q1 : Nat) (w : q_W) : Option (Int32 × q_W) :=
  if cC q0 = 8 then
  if cC q1 = 8 then
  fX8_cellsUnlike_l4 q0 q1 0 0 w
  else none
  else none
set_option maxHeartbeats 4000000 in
set_option maxRecDepth 100000 in
theorem kX8_cellsUnlike (X : q_X) (l : Launch) (q0 : Nat) (q1 : Nat) (w : q_W) : q_Ct X S_C l mX8_cellsUnlike 0 q_tI [.ref q0, .ref q1] w (fX8_cellsUnlike q0 q1 w) := by
  refine q_intro (lv := [(0, .ref q0), (1, .ref q1)]) (by decide +kernel) rfl (Nat.le_of_ble_eq_true rfl) rfl ?_
  refine q_ck (fun h0 => ?_)
  refine q_ck (fun h1 => ?_)
  refine q_iconst eX8_cellsUnlike_0 kiconst_0 ?_
  refine q_istore_n (lv' := [(2, .int 0), (0, .ref q0), (1, .ref q1)]) eX8_cellsUnlike_1 rfl (by decide) rfl ?_
  refine q_iconst eX8_cellsUnlike_2 kiconst_0 ?_
  refine q_istore_n (lv' := [(3, .int 0), (2, .int 0), (0, .ref q0), (1, .ref q1)]) eX8_cellsUnlike_3 rfl (by decide) rfl ?_
  exact q_sub [2, 3, 1, 0] rfl (jX8_cellsUnlike_l4 X l q0 q1 h0 h1 0 0 w)
def fX8_edgesUnlike_n46 (q0 : Nat) (q1 : Nat) (rec5 : Int32 → Int32 → Int32 → q_W → Option (Int32 × q_W)) (x2 : Int32) (x3 : Int32) (x4 : Int32) (w : q_W) : Option (Int32 × q_W) :=
  q_lt (x4 + 1) fun y1 =>
  rec5 x2 x3 y1 w
set_option maxHeartbeats 4000000 in
set_option maxRecDepth 100000 in
theorem jX8_edgesUnlike_n46 (X : q_X) (l : Launch) (q0 : Nat) (q1 : Nat) (h0 : cC q0 = 8) (h1 : cC q1 = 8) (rec5 : Int32 → Int32 → Int32 → q_W → Option (Int32 × q_W)) (hr5 : ∀ x2 x3 x4 w, q_J X S_C l mX8_edgesUnlike 2 q_tI 5 [(0, .ref q0), (1, .ref q1), (2, .int x2), (3, .int x3), (4, .int x4)] [] w (rec5 x2 x3 x4 w)) (x2 : Int32) (x3 : Int32) (x4 : Int32) (w : q_W) : q_J X S_C l mX8_edgesUnlike 2 q_tI 46 [(0, .ref q0), (1, .ref q1), (2, .int x2), (3, .int x3), (4, .int x4)] [] w (fX8_edgesUnlike_n46 q0 q1 rec5 x2 x3 x4 w) := by
  refine q_ltE (fun y1 hy1 => ?_)
  refine q_iinc (v := y1) (lv' := [(4, .int y1), (0, .ref q0), (1, .ref q1), (2, .int x2), (3, .int x3)]) 4 eX8_edgesUnlike_46 rfl hy1 (by decide) rfl ?_
  refine q_goto (tgt := 5) eX8_edgesUnlike_49 (by decide) ?_
  exact q_sub [1, 2, 3, 4, 0] rfl (hr5 x2 x3 y1 w)
def fX8_edgesUnlike_h5 (q0 : Nat) (q1 : Nat) (rec5 : Int32 → Int32 → Int32 → q_W → Option (Int32 × q_W)) (x2 : Int32) (x3 : Int32) (x4 : Int32) (w : q_W) : Option (Int32 × q_W) :=
  if 16 ≤ x4 then
    some (x3, w)
  else
    q_b (fX8_isCell 0 (x4 + x2) w) fun r1 w2 =>
    if r1 = 0 then
      fX8_edgesUnlike_n46 q0 q1 rec5 x2 x3 x4 w2
    else
      q_b (fX8_colourOf q0 15 x4 w2) fun r3 w4 =>
      q_b (fX8_colourOf q1 0 (x4 + x2) w4) fun r5 w6 =>
      if r3 = r5 then
        fX8_edgesUnlike_n46 q0 q1 rec5 x2 x3 x4 w6
      else
        q_lt (x3 + 1) fun y7 =>
        fX8_edgesUnlike_n46 q0 q1 rec5 x2 y7 x4 w6
def fX8_edgesUnlike_l5 (q0 : Nat) (q1 : Nat) : Int32 → Int32 → Int32 → q_W → Option (Int32 × q_W) := q_it q_N (fX8_edgesUnlike_h5 q0 q1) (fun _ _ _ _ => none)
set_option maxHeartbeats 4000000 in
set_option maxRecDepth 100000 in
theorem jX8_edgesUnlike_h5 (X : q_X) (l : Launch) (q0 : Nat) (q1 : Nat) (h0 : cC q0 = 8) (h1 : cC q1 = 8) (rec5 : Int32 → Int32 → Int32 → q_W → Option (Int32 × q_W)) (hr5 : ∀ x2 x3 x4 w, q_J X S_C l mX8_edgesUnlike 2 q_tI 5 [(0, .ref q0), (1, .ref q1), (2, .int x2), (3, .int x3), (4, .int x4)] [] w (rec5 x2 x3 x4 w)) : ∀ x2 x3 x4 w, q_J X S_C l mX8_edgesUnlike 2 q_tI 5 [(0, .ref q0), (1, .ref q1), (2, .int x2), (3, .int x3), (4, .int x4)] [] w (fX8_edgesUnlike_h5 q0 q1 rec5 x2 x3 x4 w) := by
  intro x2 x3 x4 w
  refine q_iload 4 eX8_edgesUnlike_5 rfl ?_
  refine q_bipush eX8_edgesUnlike_7 kbipush_16 ?_
  refine q_icmp_ge (tgt := 52) eX8_edgesUnlike_9 (by decide) (fun _ => ?_) (fun _ => ?_)
  · refine q_iload_n 3 eX8_edgesUnlike_52 rfl rfl ?_
    exact q_ireturn eX8_edgesUnlike_53 rfl
  · refine q_iconst eX8_edgesUnlike_12 kiconst_0 ?_
    refine q_iload 4 eX8_edgesUnlike_13 rfl ?_
    refine q_iload_n 2 eX8_edgesUnlike_15 rfl rfl ?_
    refine q_iadd eX8_edgesUnlike_16 ?_
    refine q_callSI (As := [.int 0, .int (x4 + x2)]) (st := []) eX8_edgesUnlike_17 cv_8_45 (kX8_isCell X l 0 (x4 + x2) w) rfl rfl (Nat.le_of_ble_eq_true rfl) (by decide) (fun r1 w2 => ?_)
    refine q_if_eq (tgt := 46) eX8_edgesUnlike_20 (by decide) (fun _ => ?_) (fun _ => ?_)
    · exact q_sub [0, 1, 2, 3, 4] rfl (jX8_edgesUnlike_n46 X l q0 q1 h0 h1 rec5 hr5 x2 x3 x4 w2)
    · refine q_aload_n 0 eX8_edgesUnlike_23 rfl rfl ?_
      refine q_bipush eX8_edgesUnlike_24 kbipush_15 ?_
      refine q_iload 4 eX8_edgesUnlike_26 rfl ?_
      refine q_callVI (As := [.int 15, .int x4]) (st := []) eX8_edgesUnlike_28 cv_8_49 (kX8_colourOf X l q0 15 x4 w2) h0 rfl (by decide) rfl rfl (Nat.le_of_ble_eq_true rfl) (by decide) (fun r3 w4 => ?_)
      refine q_aload_n 1 eX8_edgesUnlike_31 rfl rfl ?_
      refine q_iconst eX8_edgesUnlike_32 kiconst_0 ?_
      refine q_iload 4 eX8_edgesUnlike_33 rfl ?_
      refine q_iload_n 2 eX8_edgesUnlike_35 rfl rfl ?_
      refine q_iadd eX8_edgesUnlike_36 ?_
      refine q_callVI (As := [.int 0, .int (x4 + x2)]) (st := [.int r3]) eX8_edgesUnlike_37 cv_8_49 (kX8_colourOf X l q1 0 (x4 + x2) w4) h1 rfl (by decide) rfl rfl (Nat.le_of_ble_eq_true rfl) (by decide) (fun r5 w6 => ?_)
      refine q_icmp_eq (tgt := 46) eX8_edgesUnlike_40 (by decide) (fun _ => ?_) (fun _ => ?_)
      · exact q_sub [0, 1, 2, 3, 4] rfl (jX8_edgesUnlike_n46 X l q0 q1 h0 h1 rec5 hr5 x2 x3 x4 w6)
      · refine q_ltE (fun y7 hy7 => ?_)
        refine q_iinc (v := y7) (lv' := [(3, .int y7), (0, .ref q0), (1, .ref q1), (2, .int x2), (4, .int x4)]) 3 eX8_edgesUnlike_43 rfl hy7 (by decide) rfl ?_
        exact q_sub [1, 2, 3, 0, 4] rfl (jX8_edgesUnlike_n46 X l q0 q1 h0 h1 rec5 hr5 x2 y7 x4 w6)
set_option maxHeartbeats 4000000 in
set_option maxRecDepth 100000 in
theorem jX8_edgesUnlike_l5 (X : q_X) (l : Launch) (q0 : Nat) (q1 : Nat) (h0 : cC q0 = 8) (h1 : cC q1 = 8) : ∀ x2 x3 x4 w, q_J X S_C l mX8_edgesUnlike 2 q_tI 5 [(0, .ref q0), (1, .ref q1), (2, .int x2), (3, .int x3), (4, .int x4)] [] w (fX8_edgesUnlike_l5 q0 q1 x2 x3 x4 w) := by
  exact q_it_ind (fun rc => ∀ x2 x3 x4 w, q_J X S_C l mX8_edgesUnlike 2 q_tI 5 [(0, .ref q0), (1, .ref q1), (2, .int x2), (3, .int x3), (4, .int x4)] [] w (rc x2 x3 x4 w)) _ _ (fun _ _ _ _ => q_none) (fun rc hrc => jX8_edgesUnlike_h5 X l q0 q1 h0 h1 rc hrc) q_N
def fX8_edgesUnlike (q0 : Nat) (q1 : Nat) (a2 : Int32) (w : q_W) : Option (Int32 × q_W) :=
  if cC q0 = 8 then
  if cC q1 = 8 then
  fX8_edgesUnlike_l5 q0 q1 a2 0 0 w
  else none
  else none
set_option maxHeartbeats 4000000 in
set_option maxRecDepth 100000 in
theorem kX8_edgesUnlike (X : q_X) (l : Launch) (q0 : Nat) (q1 : Nat) (a2 : Int32) (w : q_W) : q_Ct X S_C l mX8_edgesUnlike 2 q_tI [.ref q0, .ref q1, .int a2] w (fX8_edgesUnlike q0 q1 a2 w) := by
  refine q_intro (lv := [(0, .ref q0), (1, .ref q1), (2, .int a2)]) (by decide +kernel) rfl (Nat.le_of_ble_eq_true rfl) rfl ?_
  refine q_ck (fun h0 => ?_)
  refine q_ck (fun h1 => ?_)
  refine q_iconst eX8_edgesUnlike_0 kiconst_0 ?_
  refine q_istore_n (lv' := [(3, .int 0), (0, .ref q0), (1, .ref q1), (2, .int a2)]) eX8_edgesUnlike_1 rfl (by decide) rfl ?_
  refine q_iconst eX8_edgesUnlike_2 kiconst_0 ?_
  refine q_istore (lv' := [(4, .int 0), (3, .int 0), (0, .ref q0), (1, .ref q1), (2, .int a2)]) eX8_edgesUnlike_3 (by decide) rfl ?_
  exact q_sub [2, 3, 4, 1, 0] rfl (jX8_edgesUnlike_l5 X l q0 q1 h0 h1 a2 0 0 w)
def fX8_bestShift_n69 (q0 : Nat) (q1 : Nat) (rec12 : Int32 → Int32 → Int32 → q_W → Option (Int32 × q_W)) (rec22 : Int32 → Int32 → Int32 → Int32 → q_W → Option (Int32 × q_W)) (x2 : Int32) (x3 : Int32) (x4 : Int32) (x5 : Int32) (w : q_W) : Option (Int32 × q_W) :=
  q_lt (x5 + 2) fun y1 =>
  rec22 x2 x3 x4 y1 w
set_option maxHeartbeats 4000000 in
set_option maxRecDepth 100000 in
theorem jX8_bestShift_n69 (X : q_X) (l : Launch) (q0 : Nat) (q1 : Nat) (h0 : cC q0 = 8) (h1 : cC q1 = 8) (rec12 : Int32 → Int32 → Int32 → q_W → Option (Int32 × q_W)) (rec22 : Int32 → Int32 → Int32 → Int32 → q_W → Option (Int32 × q_W)) (hr12 : ∀ x2 x3 x4 w, q_J X S_C l mX8_bestShift 3 q_tI 12 [(0, .ref q0), (1, .ref q1), (2, .int x2), (3, .int x3), (4, .int x4)] [] w (rec12 x2 x3 x4 w)) (hr22 : ∀ x2 x3 x4 x5 w, q_J X S_C l mX8_bestShift 3 q_tI 22 [(0, .ref q0), (1, .ref q1), (2, .int x2), (3, .int x3), (4, .int x4), (5, .int x5)] [] w (rec22 x2 x3 x4 x5 w)) (x2 : Int32) (x3 : Int32) (x4 : Int32) (x5 : Int32) (w : q_W) : q_J X S_C l mX8_bestShift 3 q_tI 69 [(0, .ref q0), (1, .ref q1), (2, .int x2), (3, .int x3), (4, .int x4), (5, .int x5)] [] w (fX8_bestShift_n69 q0 q1 rec12 rec22 x2 x3 x4 x5 w) := by
  refine q_ltE (fun y1 hy1 => ?_)
  refine q_iinc (v := y1) (lv' := [(5, .int y1), (0, .ref q0), (1, .ref q1), (2, .int x2), (3, .int x3), (4, .int x4)]) 5 eX8_bestShift_69 rfl hy1 (by decide) rfl ?_
  refine q_goto (tgt := 22) eX8_bestShift_72 (by decide) ?_
  exact q_sub [1, 2, 3, 4, 5, 0] rfl (hr22 x2 x3 x4 y1 w)
def fX8_bestShift_h22 (q0 : Nat) (q1 : Nat) (rec12 : Int32 → Int32 → Int32 → q_W → Option (Int32 × q_W)) (rec22 : Int32 → Int32 → Int32 → Int32 → q_W → Option (Int32 × q_W)) (x2 : Int32) (x3 : Int32) (x4 : Int32) (x5 : Int32) (w : q_W) : Option (Int32 × q_W) :=
  if 1 < x5 then
    q_lt (x4 + 1) fun y1 =>
    rec12 x2 x3 y1 w
  else
    q_b (fX8_edgesUnlike q0 q1 (x5 * x4) w) fun r2 w3 =>
    if (x3 * (16 - x4)) ≤ (r2 * (16 - (q_iabs x2))) then
      fX8_bestShift_n69 q0 q1 rec12 rec22 x2 x3 x4 x5 w3
    else
      q_lt (x5 * x4) fun y4 =>
      fX8_bestShift_n69 q0 q1 rec12 rec22 y4 r2 x4 x5 w3
def fX8_bestShift_l22 (q0 : Nat) (q1 : Nat) (rec12 : Int32 → Int32 → Int32 → q_W → Option (Int32 × q_W)) : Int32 → Int32 → Int32 → Int32 → q_W → Option (Int32 × q_W) := q_it q_N (fX8_bestShift_h22 q0 q1 rec12) (fun _ _ _ _ _ => none)
set_option maxHeartbeats 4000000 in
set_option maxRecDepth 100000 in
theorem jX8_bestShift_h22 (X : q_X) (l : Launch) (q0 : Nat) (q1 : Nat) (h0 : cC q0 = 8) (h1 : cC q1 = 8) (rec12 : Int32 → Int32 → Int32 → q_W → Option (Int32 × q_W)) (hr12 : ∀ x2 x3 x4 w, q_J X S_C l mX8_bestShift 3 q_tI 12 [(0, .ref q0), (1, .ref q1), (2, .int x2), (3, .int x3), (4, .int x4)] [] w (rec12 x2 x3 x4 w)) (rec22 : Int32 → Int32 → Int32 → Int32 → q_W → Option (Int32 × q_W)) (hr22 : ∀ x2 x3 x4 x5 w, q_J X S_C l mX8_bestShift 3 q_tI 22 [(0, .ref q0), (1, .ref q1), (2, .int x2), (3, .int x3), (4, .int x4), (5, .int x5)] [] w (rec22 x2 x3 x4 x5 w)) : ∀ x2 x3 x4 x5 w, q_J X S_C l mX8_bestShift 3 q_tI 22 [(0, .ref q0), (1, .ref q1), (2, .int x2), (3, .int x3), (4, .int x4), (5, .int x5)] [] w (fX8_bestShift_h22 q0 q1 rec12 rec22 x2 x3 x4 x5 w) := by
  intro x2 x3 x4 x5 w
  refine q_iload 5 eX8_bestShift_22 rfl ?_
  refine q_iconst eX8_bestShift_24 kiconst_1 ?_
  refine q_icmp_gt (tgt := 75) eX8_bestShift_25 (by decide) (fun _ => ?_) (fun _ => ?_)
  · refine q_ltE (fun y1 hy1 => ?_)
    refine q_iinc (v := y1) (lv' := [(4, .int y1), (0, .ref q0), (1, .ref q1), (2, .int x2), (3, .int x3), (5, .int x5)]) 4 eX8_bestShift_75 rfl hy1 (by decide) rfl ?_
    refine q_goto (tgt := 12) eX8_bestShift_78 (by decide) ?_
    exact q_sub [1, 2, 3, 4, 0] rfl (hr12 x2 x3 y1 w)
  · refine q_aload_n 0 eX8_bestShift_28 rfl rfl ?_
    refine q_aload_n 1 eX8_bestShift_29 rfl rfl ?_
    refine q_iload 5 eX8_bestShift_30 rfl ?_
    refine q_iload 4 eX8_bestShift_32 rfl ?_
    refine q_imul eX8_bestShift_34 ?_
    refine q_callVI (As := [.ref q1, .int (x5 * x4)]) (st := []) eX8_bestShift_35 cv_8_50 (kX8_edgesUnlike X l q0 q1 (x5 * x4) w) h0 rfl (by decide) rfl rfl (Nat.le_of_ble_eq_true rfl) (by decide) (fun r2 w3 => ?_)
    refine q_istore (lv' := [(6, .int r2), (0, .ref q0), (1, .ref q1), (2, .int x2), (3, .int x3), (4, .int x4), (5, .int x5)]) eX8_bestShift_38 (by decide) rfl ?_
    refine q_iload 0 eX8_bestShift_40 rfl ?_
    refine q_bipush eX8_bestShift_42 kbipush_16 ?_
    refine q_iload_n 3 eX8_bestShift_44 rfl rfl ?_
    refine q_mabs eX8_bestShift_45 cv_8_54 (Nat.le_of_ble_eq_true rfl) (by decide) ?_
    refine q_isub eX8_bestShift_48 ?_
    refine q_imul eX8_bestShift_49 ?_
    refine q_iload_n 4 eX8_bestShift_50 rfl rfl ?_
    refine q_bipush eX8_bestShift_51 kbipush_16 ?_
    refine q_iload 5 eX8_bestShift_53 rfl ?_
    refine q_isub eX8_bestShift_55 ?_
    refine q_imul eX8_bestShift_56 ?_
    refine q_icmp_ge (tgt := 69) eX8_bestShift_57 (by decide) (fun _ => ?_) (fun _ => ?_)
    · exact q_sub [1, 2, 3, 4, 5, 6] rfl (jX8_bestShift_n69 X l q0 q1 h0 h1 rec12 rec22 hr12 hr22 x2 x3 x4 x5 w3)
    · refine q_iload 6 eX8_bestShift_60 rfl ?_
      refine q_iload 5 eX8_bestShift_62 rfl ?_
      refine q_imul eX8_bestShift_64 ?_
      refine q_ltI (fun y4 => ?_)
      refine q_istore_n (lv' := [(2, .int y4), (6, .int r2), (0, .ref q0), (1, .ref q1), (3, .int x3), (4, .int x4), (5, .int x5)]) eX8_bestShift_65 rfl (by decide) rfl ?_
      refine q_iload 1 eX8_bestShift_66 rfl ?_
      refine q_istore_n (lv' := [(3, .int r2), (2, .int y4), (6, .int r2), (0, .ref q0), (1, .ref q1), (4, .int x4), (5, .int x5)]) eX8_bestShift_68 rfl (by decide) rfl ?_
      exact q_sub [3, 4, 1, 0, 5, 6] rfl (jX8_bestShift_n69 X l q0 q1 h0 h1 rec12 rec22 hr12 hr22 y4 r2 x4 x5 w3)
set_option maxHeartbeats 4000000 in
set_option maxRecDepth 100000 in
theorem jX8_bestShift_l22 (X : q_X) (l : Launch) (q0 : Nat) (q1 : Nat) (h0 : cC q0 = 8) (h1 : cC q1 = 8) (rec12 : Int32 → Int32 → Int32 → q_W → Option (Int32 × q_W)) (hr12 : ∀ x2 x3 x4 w, q_J X S_C l mX8_bestShift 3 q_tI 12 [(0, .ref q0), (1, .ref q1), (2, .int x2), (3, .int x3), (4, .int x4)] [] w (rec12 x2 x3 x4 w)) : ∀ x2 x3 x4 x5 w, q_J X S_C l mX8_bestShift 3 q_tI 22 [(0, .ref q0), (1, .ref q1), (2, .int x2), (3, .int x3), (4, .int x4), (5, .int x5)] [] w (fX8_bestShift_l22 q0 q1 rec12 x2 x3 x4 x5 w) := by
  exact q_it_ind (fun rc => ∀ x2 x3 x4 x5 w, q_J X S_C l mX8_bestShift 3 q_tI 22 [(0, .ref q0), (1, .ref q1), (2, .int x2), (3, .int x3), (4, .int x4), (5, .int x5)] [] w (rc x2 x3 x4 x5 w)) _ _ (fun _ _ _ _ _ => q_none) (fun rc hrc => jX8_bestShift_h22 X l q0 q1 h0 h1 rec12 hr12 rc hrc) q_N
def fX8_bestShift_h12 (q0 : Nat) (q1 : Nat) (rec12 : Int32 → Int32 → Int32 → q_W → Option (Int32 × q_W)) (x2 : Int32) (x3 : Int32) (x4 : Int32) (w : q_W) : Option (Int32 × q_W) :=
  if 16 ≤ x4 then
    some (x2, w)
  else
    fX8_bestShift_l22 q0 q1 rec12 x2 x3 x4 (-1) w
def fX8_bestShift_l12 (q0 : Nat) (q1 : Nat) : Int32 → Int32 → Int32 → q_W → Option (Int32 × q_W) := q_it q_N (fX8_bestShift_h12 q0 q1) (fun _ _ _ _ => none)
set_option maxHeartbeats 4000000 in
set_option maxRecDepth 100000 in
theorem jX8_bestShift_h12 (X : q_X) (l : Launch) (q0 : Nat) (q1 : Nat) (h0 : cC q0 = 8) (h1 : cC q1 = 8) (rec12 : Int32 → Int32 → Int32 → q_W → Option (Int32 × q_W)) (hr12 : ∀ x2 x3 x4 w, q_J X S_C l mX8_bestShift 3 q_tI 12 [(0, .ref q0), (1, .ref q1), (2, .int x2), (3, .int x3), (4, .int x4)] [] w (rec12 x2 x3 x4 w)) : ∀ x2 x3 x4 w, q_J X S_C l mX8_bestShift 3 q_tI 12 [(0, .ref q0), (1, .ref q1), (2, .int x2), (3, .int x3), (4, .int x4)] [] w (fX8_bestShift_h12 q0 q1 rec12 x2 x3 x4 w) := by
  intro x2 x3 x4 w
  refine q_iload 4 eX8_bestShift_12 rfl ?_
  refine q_bipush eX8_bestShift_14 kbipush_16 ?_
  refine q_icmp_ge (tgt := 81) eX8_bestShift_16 (by decide) (fun _ => ?_) (fun _ => ?_)
  · refine q_iload_n 2 eX8_bestShift_81 rfl rfl ?_
    exact q_ireturn eX8_bestShift_82 rfl
  · refine q_iconst eX8_bestShift_19 kiconst_m1 ?_
    refine q_istore (lv' := [(5, .int (-1)), (0, .ref q0), (1, .ref q1), (2, .int x2), (3, .int x3), (4, .int x4)]) eX8_bestShift_20 (by decide) rfl ?_
    exact q_sub [1, 2, 3, 4, 5, 0] rfl (jX8_bestShift_l22 X l q0 q1 h0 h1 rec12 hr12 x2 x3 x4 (-1) w)
set_option maxHeartbeats 4000000 in
set_option maxRecDepth 100000 in
theorem jX8_bestShift_l12 (X : q_X) (l : Launch) (q0 : Nat) (q1 : Nat) (h0 : cC q0 = 8) (h1 : cC q1 = 8) : ∀ x2 x3 x4 w, q_J X S_C l mX8_bestShift 3 q_tI 12 [(0, .ref q0), (1, .ref q1), (2, .int x2), (3, .int x3), (4, .int x4)] [] w (fX8_bestShift_l12 q0 q1 x2 x3 x4 w) := by
  exact q_it_ind (fun rc => ∀ x2 x3 x4 w, q_J X S_C l mX8_bestShift 3 q_tI 12 [(0, .ref q0), (1, .ref q1), (2, .int x2), (3, .int x3), (4, .int x4)] [] w (rc x2 x3 x4 w)) _ _ (fun _ _ _ _ => q_none) (fun rc hrc => jX8_bestShift_h12 X l q0 q1 h0 h1 rc hrc) q_N
def fX8_bestShift (q0 : Nat) (q1 : Nat) (w : q_W) : Option (Int32 × q_W) :=
  if cC q0 = 8 then
  if cC q1 = 8 then
  q_b (fX8_edgesUnlike q0 q1 0 w) fun r1 w2 =>
  fX8_bestShift_l12 q0 q1 0 r1 1 w2
  else none
  else none
set_option maxHeartbeats 4000000 in
set_option maxRecDepth 100000 in
theorem kX8_bestShift (X : q_X) (l : Launch) (q0 : Nat) (q1 : Nat) (w : q_W) : q_Ct X S_C l mX8_bestShift 3 q_tI [.ref q0, .ref q1] w (fX8_bestShift q0 q1 w) := by
  refine q_intro (lv := [(0, .ref q0), (1, .ref q1)]) (by decide +kernel) rfl (Nat.le_of_ble_eq_true rfl) rfl ?_
  refine q_ck (fun h0 => ?_)
  refine q_ck (fun h1 => ?_)
  refine q_iconst eX8_bestShift_0 kiconst_0 ?_
  refine q_istore_n (lv' := [(2, .int 0), (0, .ref q0), (1, .ref q1)]) eX8_bestShift_1 rfl (by decide) rfl ?_
  refine q_aload_n 1 eX8_bestShift_2 rfl rfl ?_
  refine q_aload_n 2 eX8_bestShift_3 rfl rfl ?_
  refine q_iconst eX8_bestShift_4 kiconst_0 ?_
  refine q_callVI (As := [.ref q1, .int 0]) (st := []) eX8_bestShift_5 cv_8_50 (kX8_edgesUnlike X l q0 q1 0 w) h0 rfl (by decide) rfl rfl (Nat.le_of_ble_eq_true rfl) (by decide) (fun r1 w2 => ?_)
  refine q_istore_n (lv' := [(3, .int r1), (2, .int 0), (0, .ref q0), (1, .ref q1)]) eX8_bestShift_8 rfl (by decide) rfl ?_
  refine q_iconst eX8_bestShift_9 kiconst_1 ?_
  refine q_istore (lv' := [(4, .int 1), (3, .int r1), (2, .int 0), (0, .ref q0), (1, .ref q1)]) eX8_bestShift_10 (by decide) rfl ?_
  exact q_sub [3, 4, 2, 1, 0] rfl (jX8_bestShift_l12 X l q0 q1 h0 h1 0 r1 1 w2)
def fX8_queue (q0 : Nat) (a1 : Int32) (a2 : Int32) (a3 : Int32) (w : q_W) : Option (Unit × q_W) :=
  if cC q0 = 8 then
  q_b (fX8_isCell a1 a2 w) fun r1 w2 =>
  if r1 = 0 then
    some ((), w2)
  else
    q_lt ((a1 * 16) + a2) fun y3 =>
    if q_inb y3 256 then
    if (w2.1 (fC q0 2) (q_ix y3)) = 0 then
      if q_inb y3 256 then
      if (w2.1 (fC q0 0) (q_ix y3)) = a3 then
        if (w2.1 q0 3) < 0 then
          some ((), w2)
        else
          if (w2.1 q0 3) < 256 then
            if q_inb y3 256 then
            q_lt (q_sI w2 (fC q0 2) (q_ix y3) (vp_nar .boolean 1)) fun w4 =>
            q_lt (w4.1 q0 3) fun y5 =>
            if q_inb y5 256 then
            q_lt (q_sI w4 (fC q0 1) (q_ix y5) y3) fun w6 =>
            q_lt (q_sI w6 q0 3 ((w6.1 q0 3) + 1)) fun w7 =>
            some ((), w7)
            else none
            else none
          else
            some ((), w2)
      else
        some ((), w2)
      else none
    else
      some ((), w2)
    else none
  else none
set_option maxHeartbeats 4000000 in
set_option maxRecDepth 100000 in
theorem kX8_queue (X : q_X) (l : Launch) (q0 : Nat) (a1 : Int32) (a2 : Int32) (a3 : Int32) (w : q_W) : q_Ct X S_C l mX8_queue 1 q_tV [.ref q0, .int a1, .int a2, .int a3] w (fX8_queue q0 a1 a2 a3 w) := by
  refine q_intro (lv := [(0, .ref q0), (1, .int a1), (2, .int a2), (3, .int a3)]) (by decide +kernel) rfl (Nat.le_of_ble_eq_true rfl) rfl ?_
  refine q_ck (fun h0 => ?_)
  refine q_iload_n 1 eX8_queue_0 rfl rfl ?_
  refine q_iload_n 2 eX8_queue_1 rfl rfl ?_
  refine q_callSI (As := [.int a1, .int a2]) (st := []) eX8_queue_2 cv_8_45 (kX8_isCell X l a1 a2 w) rfl rfl (Nat.le_of_ble_eq_true rfl) (by decide) (fun r1 w2 => ?_)
  refine q_if_ne (tgt := 9) eX8_queue_5 (by decide) (fun _ => ?_) (fun _ => ?_)
  · exact q_return eX8_queue_8 rfl
  · refine q_iload_n 1 eX8_queue_9 rfl rfl ?_
    refine q_bipush eX8_queue_10 kbipush_16 ?_
    refine q_imul eX8_queue_12 ?_
    refine q_iload_n 2 eX8_queue_13 rfl rfl ?_
    refine q_iadd eX8_queue_14 ?_
    refine q_ltI (fun y3 => ?_)
    refine q_istore (lv' := [(4, .int y3), (0, .ref q0), (1, .int a1), (2, .int a2), (3, .int a3)]) eX8_queue_15 (by decide) rfl ?_
    refine q_aload_n 1 eX8_queue_17 rfl rfl ?_
    refine q_getG (v := (fC q0 2)) eX8_queue_18 fl_8_18 h0 rfl rfl ?_
    refine q_iload 0 eX8_queue_21 rfl ?_
    refine q_zald eX8_queue_23 (fxC_8_2 q0 h0) (flC_8_2 q0 h0) ?_
    refine q_if_ne (tgt := 55) eX8_queue_24 (by decide) (fun _ => ?_) (fun _ => ?_)
    · refine q_aload_n 1 eX8_queue_27 rfl rfl ?_
      refine q_getG (v := (fC q0 0)) eX8_queue_28 fl_8_11 h0 rfl rfl ?_
      refine q_iload 0 eX8_queue_31 rfl ?_
      refine q_iald eX8_queue_33 (fxC_8_0 q0 h0) (flC_8_0 q0 h0) ?_
      refine q_iload_n 4 eX8_queue_34 rfl rfl ?_
      refine q_icmp_ne (tgt := 55) eX8_queue_35 (by decide) (fun _ => ?_) (fun _ => ?_)
      · refine q_aload_n 1 eX8_queue_38 rfl rfl ?_
        refine q_getI eX8_queue_39 fl_8_74 h0 rfl ?_
        refine q_if_lt (tgt := 55) eX8_queue_42 (by decide) (fun _ => ?_) (fun _ => ?_)
        · exact q_return eX8_queue_55 rfl
        · refine q_aload_n 1 eX8_queue_45 rfl rfl ?_
          refine q_getI eX8_queue_46 fl_8_74 h0 rfl ?_
          refine q_sipush eX8_queue_49 ksipush_256 ?_
          refine q_icmp_lt (tgt := 56) eX8_queue_52 (by decide) (fun _ => ?_) (fun _ => ?_)
          · refine q_aload_n 1 eX8_queue_56 rfl rfl ?_
            refine q_getG (v := (fC q0 2)) eX8_queue_57 fl_8_18 h0 rfl rfl ?_
            refine q_iload 0 eX8_queue_60 rfl ?_
            refine q_iconst eX8_queue_62 kiconst_1 ?_
            refine q_zast eX8_queue_63 (fxC_8_2 q0 h0) (flC_8_2 q0 h0) ?_
            refine q_ltW (fun w4 => ?_)
            refine q_aload_n 1 eX8_queue_64 rfl rfl ?_
            refine q_getG (v := (fC q0 1)) eX8_queue_65 fl_8_15 h0 rfl rfl ?_
            refine q_aload_n 1 eX8_queue_68 rfl rfl ?_
            refine q_getI eX8_queue_69 fl_8_74 h0 rfl ?_
            refine q_iload 0 eX8_queue_72 rfl ?_
            refine q_ltI1 (fun y5 => ?_)
            refine q_iast eX8_queue_74 (fxC_8_1 q0 h0) (flC_8_1 q0 h0) ?_
            refine q_ltW (fun w6 => ?_)
            refine q_aload_n 1 eX8_queue_75 rfl rfl ?_
            refine q_dup eX8_queue_76 rfl ?_
            refine q_getI eX8_queue_77 fl_8_74 h0 rfl ?_
            refine q_iconst eX8_queue_80 kiconst_1 ?_
            refine q_iadd eX8_queue_81 ?_
            refine q_putI eX8_queue_82 fp_8_74 h0 rfl ⟨rfl, rfl⟩ ?_
            refine q_ltW (fun w7 => ?_)
            exact q_return eX8_queue_85 rfl
          · exact q_return eX8_queue_55 rfl
      · exact q_return eX8_queue_55 rfl
    · exact q_return eX8_queue_55 rfl
def fX8_sizeFrom_h25 (q0 : Nat) (rec25 : Int32 → Int32 → Int32 → q_W → Option (Int32 × q_W)) (x3 : Int32) (x4 : Int32) (x5 : Int32) (w : q_W) : Option (Int32 × q_W) :=
  if 256 ≤ x5 then
    some (x4, w)
  else
    if (w.1 q0 3) ≤ 0 then
      some (x4, w)
    else
      if 256 < (w.1 q0 3) then
        some (x4, w)
      else
        q_lt (q_sI w q0 3 ((w.1 q0 3) - 1)) fun w1 =>
        q_lt (w1.1 q0 3) fun y2 =>
        if q_inb y2 256 then
        q_lt (w1.1 (fC q0 1) (q_ix y2)) fun y3 =>
        q_lt (x4 + 1) fun y4 =>
        q_b (fX8_queue q0 ((y3 / 16) - 1) (y3 - y3 / 16 * 16) x3 w1) fun r5 w6 =>
        q_b (fX8_queue q0 ((y3 / 16) + 1) (y3 - y3 / 16 * 16) x3 w6) fun r7 w8 =>
        q_b (fX8_queue q0 (y3 / 16) ((y3 - y3 / 16 * 16) - 1) x3 w8) fun r9 w10 =>
        q_b (fX8_queue q0 (y3 / 16) ((y3 - y3 / 16 * 16) + 1) x3 w10) fun r11 w12 =>
        q_lt (x5 + 1) fun y13 =>
        rec25 x3 y4 y13 w12
        else none
def fX8_sizeFrom_l25 (q0 : Nat) : Int32 → Int32 → Int32 → q_W → Option (Int32 × q_W) := q_it q_N (fX8_sizeFrom_h25 q0) (fun _ _ _ _ => none)
set_option maxHeartbeats 4000000 in
set_option maxRecDepth 100000 in
theorem jX8_sizeFrom_h25 (X : q_X) (l : Launch) (q0 : Nat) (h0 : cC q0 = 8) (rec25 : Int32 → Int32 → Int32 → q_W → Option (Int32 × q_W)) (hr25 : ∀ x3 x4 x5 w, q_J X S_C l mX8_sizeFrom 2 q_tI 25 [(0, .ref q0), (3, .int x3), (4, .int x4), (5, .int x5)] [] w (rec25 x3 x4 x5 w)) : ∀ x3 x4 x5 w, q_J X S_C l mX8_sizeFrom 2 q_tI 25 [(0, .ref q0), (3, .int x3), (4, .int x4), (5, .int x5)] [] w (fX8_sizeFrom_h25 q0 rec25 x3 x4 x5 w) := by
  intro x3 x4 x5 w
  refine q_iload 3 eX8_sizeFrom_25 rfl ?_
  refine q_sipush eX8_sizeFrom_27 ksipush_256 ?_
  refine q_icmp_ge (tgt := 148) eX8_sizeFrom_30 (by decide) (fun _ => ?_) (fun _ => ?_)
  · refine q_iload 2 eX8_sizeFrom_148 rfl ?_
    exact q_ireturn eX8_sizeFrom_150 rfl
  · refine q_aload_n 0 eX8_sizeFrom_33 rfl rfl ?_
    refine q_getI eX8_sizeFrom_34 fl_8_74 h0 rfl ?_
    refine q_if_le (tgt := 148) eX8_sizeFrom_37 (by decide) (fun _ => ?_) (fun _ => ?_)
    · refine q_iload 2 eX8_sizeFrom_148 rfl ?_
      exact q_ireturn eX8_sizeFrom_150 rfl
    · refine q_aload_n 0 eX8_sizeFrom_40 rfl rfl ?_
      refine q_getI eX8_sizeFrom_41 fl_8_74 h0 rfl ?_
      refine q_sipush eX8_sizeFrom_44 ksipush_256 ?_
      refine q_icmp_gt (tgt := 148) eX8_sizeFrom_47 (by decide) (fun _ => ?_) (fun _ => ?_)
      · refine q_iload 2 eX8_sizeFrom_148 rfl ?_
        exact q_ireturn eX8_sizeFrom_150 rfl
      · refine q_aload_n 0 eX8_sizeFrom_50 rfl rfl ?_
        refine q_dup eX8_sizeFrom_51 rfl ?_
        refine q_getI eX8_sizeFrom_52 fl_8_74 h0 rfl ?_
        refine q_iconst eX8_sizeFrom_55 kiconst_1 ?_
        refine q_isub eX8_sizeFrom_56 ?_
        refine q_putI eX8_sizeFrom_57 fp_8_74 h0 rfl ⟨rfl, rfl⟩ ?_
        refine q_ltW (fun w1 => ?_)
        refine q_aload_n 0 eX8_sizeFrom_60 rfl rfl ?_
        refine q_getG (v := (fC q0 1)) eX8_sizeFrom_61 fl_8_15 h0 rfl rfl ?_
        refine q_aload_n 0 eX8_sizeFrom_64 rfl rfl ?_
        refine q_getI eX8_sizeFrom_65 fl_8_74 h0 rfl ?_
        refine q_ltI (fun y2 => ?_)
        refine q_iald eX8_sizeFrom_68 (fxC_8_1 q0 h0) (flC_8_1 q0 h0) ?_
        refine q_ltI (fun y3 => ?_)
        refine q_istore (lv' := [(6, .int y3), (0, .ref q0), (3, .int x3), (4, .int x4), (5, .int x5)]) eX8_sizeFrom_69 (by decide) rfl ?_
        refine q_ltE (fun y4 hy4 => ?_)
        refine q_iinc (v := y4) (lv' := [(4, .int y4), (6, .int y3), (0, .ref q0), (3, .int x3), (5, .int x5)]) 3 eX8_sizeFrom_71 rfl hy4 (by decide) rfl ?_
        refine q_aload_n 2 eX8_sizeFrom_74 rfl rfl ?_
        refine q_iload 1 eX8_sizeFrom_75 rfl ?_
        refine q_bipush eX8_sizeFrom_77 kbipush_16 ?_
        refine q_idivc eX8_sizeFrom_79 (by decide) ?_
        refine q_iconst eX8_sizeFrom_80 kiconst_1 ?_
        refine q_isub eX8_sizeFrom_81 ?_
        refine q_iload 1 eX8_sizeFrom_82 rfl ?_
        refine q_bipush eX8_sizeFrom_84 kbipush_16 ?_
        refine q_iremc eX8_sizeFrom_86 (by decide) ?_
        refine q_iload_n 3 eX8_sizeFrom_87 rfl rfl ?_
        refine q_callVV (As := [.int ((y3 / 16) - 1), .int (y3 - y3 / 16 * 16), .int x3]) (st := []) eX8_sizeFrom_88 cv_8_77 (kX8_queue X l q0 ((y3 / 16) - 1) (y3 - y3 / 16 * 16) x3 w1) h0 rfl (by decide) rfl rfl (Nat.le_of_ble_eq_true rfl) (by decide) (fun r5 w6 => ?_)
        refine q_aload_n 2 eX8_sizeFrom_91 rfl rfl ?_
        refine q_iload 1 eX8_sizeFrom_92 rfl ?_
        refine q_bipush eX8_sizeFrom_94 kbipush_16 ?_
        refine q_idivc eX8_sizeFrom_96 (by decide) ?_
        refine q_iconst eX8_sizeFrom_97 kiconst_1 ?_
        refine q_iadd eX8_sizeFrom_98 ?_
        refine q_iload 1 eX8_sizeFrom_99 rfl ?_
        refine q_bipush eX8_sizeFrom_101 kbipush_16 ?_
        refine q_iremc eX8_sizeFrom_103 (by decide) ?_
        refine q_iload_n 3 eX8_sizeFrom_104 rfl rfl ?_
        refine q_callVV (As := [.int ((y3 / 16) + 1), .int (y3 - y3 / 16 * 16), .int x3]) (st := []) eX8_sizeFrom_105 cv_8_77 (kX8_queue X l q0 ((y3 / 16) + 1) (y3 - y3 / 16 * 16) x3 w6) h0 rfl (by decide) rfl rfl (Nat.le_of_ble_eq_true rfl) (by decide) (fun r7 w8 => ?_)
        refine q_aload_n 2 eX8_sizeFrom_108 rfl rfl ?_
        refine q_iload 1 eX8_sizeFrom_109 rfl ?_
        refine q_bipush eX8_sizeFrom_111 kbipush_16 ?_
        refine q_idivc eX8_sizeFrom_113 (by decide) ?_
        refine q_iload 1 eX8_sizeFrom_114 rfl ?_
        refine q_bipush eX8_sizeFrom_116 kbipush_16 ?_
        refine q_iremc eX8_sizeFrom_118 (by decide) ?_
        refine q_iconst eX8_sizeFrom_119 kiconst_1 ?_
        refine q_isub eX8_sizeFrom_120 ?_
        refine q_iload_n 3 eX8_sizeFrom_121 rfl rfl ?_
        refine q_callVV (As := [.int (y3 / 16), .int ((y3 - y3 / 16 * 16) - 1), .int x3]) (st := []) eX8_sizeFrom_122 cv_8_77 (kX8_queue X l q0 (y3 / 16) ((y3 - y3 / 16 * 16) - 1) x3 w8) h0 rfl (by decide) rfl rfl (Nat.le_of_ble_eq_true rfl) (by decide) (fun r9 w10 => ?_)
        refine q_aload_n 2 eX8_sizeFrom_125 rfl rfl ?_
        refine q_iload 1 eX8_sizeFrom_126 rfl ?_
        refine q_bipush eX8_sizeFrom_128 kbipush_16 ?_
        refine q_idivc eX8_sizeFrom_130 (by decide) ?_
        refine q_iload 1 eX8_sizeFrom_131 rfl ?_
        refine q_bipush eX8_sizeFrom_133 kbipush_16 ?_
        refine q_iremc eX8_sizeFrom_135 (by decide) ?_
        refine q_iconst eX8_sizeFrom_136 kiconst_1 ?_
        refine q_iadd eX8_sizeFrom_137 ?_
        refine q_iload_n 3 eX8_sizeFrom_138 rfl rfl ?_
        refine q_callVV (As := [.int (y3 / 16), .int ((y3 - y3 / 16 * 16) + 1), .int x3]) (st := []) eX8_sizeFrom_139 cv_8_77 (kX8_queue X l q0 (y3 / 16) ((y3 - y3 / 16 * 16) + 1) x3 w10) h0 rfl (by decide) rfl rfl (Nat.le_of_ble_eq_true rfl) (by decide) (fun r11 w12 => ?_)
        refine q_ltE (fun y13 hy13 => ?_)
        refine q_iinc (v := y13) (lv' := [(5, .int y13), (4, .int y4), (6, .int y3), (0, .ref q0), (3, .int x3)]) 4 eX8_sizeFrom_142 rfl hy13 (by decide) rfl ?_
        refine q_goto (tgt := 25) eX8_sizeFrom_145 (by decide) ?_
        exact q_sub [3, 4, 1, 0] rfl (hr25 x3 y4 y13 w12)
set_option maxHeartbeats 4000000 in
set_option maxRecDepth 100000 in
theorem jX8_sizeFrom_l25 (X : q_X) (l : Launch) (q0 : Nat) (h0 : cC q0 = 8) : ∀ x3 x4 x5 w, q_J X S_C l mX8_sizeFrom 2 q_tI 25 [(0, .ref q0), (3, .int x3), (4, .int x4), (5, .int x5)] [] w (fX8_sizeFrom_l25 q0 x3 x4 x5 w) := by
  exact q_it_ind (fun rc => ∀ x3 x4 x5 w, q_J X S_C l mX8_sizeFrom 2 q_tI 25 [(0, .ref q0), (3, .int x3), (4, .int x4), (5, .int x5)] [] w (rc x3 x4 x5 w)) _ _ (fun _ _ _ _ => q_none) (fun rc hrc => jX8_sizeFrom_h25 X l q0 h0 rc hrc) q_N
def fX8_sizeFrom (q0 : Nat) (a1 : Int32) (a2 : Int32) (w : q_W) : Option (Int32 × q_W) :=
  if cC q0 = 8 then
  q_b (fX8_colourOf q0 a1 a2 w) fun r1 w2 =>
  q_lt (q_sI w2 q0 3 0) fun w3 =>
  q_b (fX8_queue q0 a1 a2 r1 w3) fun r4 w5 =>
  fX8_sizeFrom_l25 q0 r1 0 0 w5
  else none
set_option maxHeartbeats 4000000 in
set_option maxRecDepth 100000 in
theorem kX8_sizeFrom (X : q_X) (l : Launch) (q0 : Nat) (a1 : Int32) (a2 : Int32) (w : q_W) : q_Ct X S_C l mX8_sizeFrom 2 q_tI [.ref q0, .int a1, .int a2] w (fX8_sizeFrom q0 a1 a2 w) := by
  refine q_intro (lv := [(0, .ref q0), (1, .int a1), (2, .int a2)]) (by decide +kernel) rfl (Nat.le_of_ble_eq_true rfl) rfl ?_
  refine q_ck (fun h0 => ?_)
  refine q_aload_n 0 eX8_sizeFrom_0 rfl rfl ?_
  refine q_iload_n 1 eX8_sizeFrom_1 rfl rfl ?_
  refine q_iload_n 2 eX8_sizeFrom_2 rfl rfl ?_
  refine q_callVI (As := [.int a1, .int a2]) (st := []) eX8_sizeFrom_3 cv_8_49 (kX8_colourOf X l q0 a1 a2 w) h0 rfl (by decide) rfl rfl (Nat.le_of_ble_eq_true rfl) (by decide) (fun r1 w2 => ?_)
  refine q_istore_n (lv' := [(3, .int r1), (0, .ref q0), (1, .int a1), (2, .int a2)]) eX8_sizeFrom_6 rfl (by decide) rfl ?_
  refine q_iconst eX8_sizeFrom_7 kiconst_0 ?_
  refine q_istore (lv' := [(4, .int 0), (3, .int r1), (0, .ref q0), (1, .int a1), (2, .int a2)]) eX8_sizeFrom_8 (by decide) rfl ?_
  refine q_aload_n 2 eX8_sizeFrom_10 rfl rfl ?_
  refine q_iconst eX8_sizeFrom_11 kiconst_0 ?_
  refine q_putI eX8_sizeFrom_12 fp_8_74 h0 rfl ⟨rfl, rfl⟩ ?_
  refine q_ltW (fun w3 => ?_)
  refine q_aload_n 2 eX8_sizeFrom_15 rfl rfl ?_
  refine q_iload_n 3 eX8_sizeFrom_16 rfl rfl ?_
  refine q_iload_n 4 eX8_sizeFrom_17 rfl rfl ?_
  refine q_iload_n 1 eX8_sizeFrom_18 rfl rfl ?_
  refine q_callVV (As := [.int a1, .int a2, .int r1]) (st := []) eX8_sizeFrom_19 cv_8_77 (kX8_queue X l q0 a1 a2 r1 w3) h0 rfl (by decide) rfl rfl (Nat.le_of_ble_eq_true rfl) (by decide) (fun r4 w5 => ?_)
  refine q_iconst eX8_sizeFrom_22 kiconst_0 ?_
  refine q_istore (lv' := [(5, .int 0), (4, .int 0), (3, .int r1), (0, .ref q0), (1, .int a1), (2, .int a2)]) eX8_sizeFrom_23 (by decide) rfl ?_
  exact q_sub [3, 2, 1, 0] rfl (jX8_sizeFrom_l25 X l q0 h0 r1 0 0 w5)
