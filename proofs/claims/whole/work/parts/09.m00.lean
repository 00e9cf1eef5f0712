/-! methods, printed by program: J1_canEncode_9a6ad_s1 J1_indexOfChar_4cfef_s1 J1_indexOf_4cfef_s1 J0_isLatin1_aae02_s1 J0_coder_7d493_s1 J0_length_8abf5_s1 J0_indexOf_7cf53_s1 J0_indexOf_0f7a4_s1 X0_begin X0_pick X0_size X0_reachedX X0_reachedY X0_isPoint X0_toothDrag X0_waveDrag X6_kindOf X6_numberOf X0_dragOf X0_root X0_squareOf X0_stretchFrom X0_tired X0_leaveDrop X0_moveBy X0_goBack X0_colourOf X0_makeWay -/
def fJ1_canEncode_9a6ad_s1 (a0 : Int32) (w : q_W) : Option (Int32 × q_W) :=
  if a0 < 0 then
    some (0, w)
  else
    if 255 < a0 then
      some (0, w)
    else
      some (1, w)
set_option maxHeartbeats 4000000 in
set_option maxRecDepth 100000 in
theorem kJ1_canEncode_9a6ad_s1 (X : q_X) (l : Launch) (S : q_S) (a0 : Int32) (w : q_W) : q_Ct X S l mJ1_canEncode_9a6ad 0 q_tI [.int a0] w (fJ1_canEncode_9a6ad_s1 a0 w) := by
  refine q_intro (lv := [(0, .int a0)]) (by decide +kernel) rfl (Nat.le_of_ble_eq_true rfl) rfl ?_
  refine q_iload_n 0 eJ1_canEncode_9a6ad_0 rfl rfl ?_
  refine q_if_lt (tgt := 15) eJ1_canEncode_9a6ad_1 (by decide) (fun _ => ?_) (fun _ => ?_)
  · refine q_iconst eJ1_canEncode_9a6ad_15 kiconst_0 ?_
    exact q_zret eJ1_canEncode_9a6ad_16 rfl rfl
  · refine q_iload_n 0 eJ1_canEncode_9a6ad_4 rfl rfl ?_
    refine q_sipush eJ1_canEncode_9a6ad_5 ksipush_255 ?_
    refine q_icmp_gt (tgt := 15) eJ1_canEncode_9a6ad_8 (by decide) (fun _ => ?_) (fun _ => ?_)
    · refine q_iconst eJ1_canEncode_9a6ad_15 kiconst_0 ?_
      exact q_zret eJ1_canEncode_9a6ad_16 rfl rfl
    · refine q_iconst eJ1_canEncode_9a6ad_11 kiconst_1 ?_
      refine q_goto (tgt := 16) eJ1_canEncode_9a6ad_12 (by decide) ?_
      exact q_zret eJ1_canEncode_9a6ad_16 rfl rfl
def fJ1_indexOfChar_4cfef_s1_h7 (rec7 : Int32 → Int32 → Int32 → q_W → Option (Int32 × q_W)) (x3 : Int32) (x4 : Int32) (x5 : Int32) (w : q_W) : Option (Int32 × q_W) :=
  if x3 ≤ x5 then
    some ((-1), w)
  else
    if q_inb x5 11 then
    if ((q_sby 1).getD (q_ix x5) 0) = x4 then
      some (x5, w)
    else
      q_lt (x5 + 1) fun y1 =>
      rec7 x3 x4 y1 w
    else none
def fJ1_indexOfChar_4cfef_s1_l7 : Int32 → Int32 → Int32 → q_W → Option (Int32 × q_W) := q_it q_N (fJ1_indexOfChar_4cfef_s1_h7) (fun _ _ _ _ => none)
set_option maxHeartbeats 4000000 in
set_option maxRecDepth 100000 in
theorem jJ1_indexOfChar_4cfef_s1_h7 (X : q_X) (l : Launch) (S : q_S) (rec7 : Int32 → Int32 → Int32 → q_W → Option (Int32 × q_W)) (hr7 : ∀ x3 x4 x5 w, q_J X S l mJ1_indexOfChar_4cfef 0 q_tI 7 [(0, .ref 1111), (3, .int x3), (4, .int x4), (5, .int x5)] [] w (rec7 x3 x4 x5 w)) : ∀ x3 x4 x5 w, q_J X S l mJ1_indexOfChar_4cfef 0 q_tI 7 [(0, .ref 1111), (3, .int x3), (4, .int x4), (5, .int x5)] [] w (fJ1_indexOfChar_4cfef_s1_h7 rec7 x3 x4 x5 w) := by
  intro x3 x4 x5 w
  refine q_iload 3 eJ1_indexOfChar_4cfef_7 rfl ?_
  refine q_iload_n 1 eJ1_indexOfChar_4cfef_9 rfl rfl ?_
  refine q_icmp_ge (tgt := 31) eJ1_indexOfChar_4cfef_10 (by decide) (fun _ => ?_) (fun _ => ?_)
  · refine q_iconst eJ1_indexOfChar_4cfef_31 kiconst_m1 ?_
    exact q_ireturn eJ1_indexOfChar_4cfef_32 rfl
  · refine q_aload_n 0 eJ1_indexOfChar_4cfef_13 rfl rfl ?_
    refine q_iload 3 eJ1_indexOfChar_4cfef_14 rfl ?_
    refine q_sbald 1 eJ1_indexOfChar_4cfef_16 (by decide) (n := 11) rfl ?_
    refine q_iload 2 eJ1_indexOfChar_4cfef_17 rfl ?_
    refine q_icmp_ne (tgt := 25) eJ1_indexOfChar_4cfef_19 (by decide) (fun _ => ?_) (fun _ => ?_)
    · refine q_iload 3 eJ1_indexOfChar_4cfef_22 rfl ?_
      exact q_ireturn eJ1_indexOfChar_4cfef_24 rfl
    · refine q_ltE (fun y1 hy1 => ?_)
      refine q_iinc (v := y1) (lv' := [(5, .int y1), (0, .ref 1111), (3, .int x3), (4, .int x4)]) 3 eJ1_indexOfChar_4cfef_25 rfl hy1 (by decide) rfl ?_
      refine q_goto (tgt := 7) eJ1_indexOfChar_4cfef_28 (by decide) ?_
      exact q_sub [1, 2, 3, 0] rfl (hr7 x3 x4 y1 w)
set_option maxHeartbeats 4000000 in
set_option maxRecDepth 100000 in
theorem jJ1_indexOfChar_4cfef_s1_l7 (X : q_X) (l : Launch) (S : q_S) : ∀ x3 x4 x5 w, q_J X S l mJ1_indexOfChar_4cfef 0 q_tI 7 [(0, .ref 1111), (3, .int x3), (4, .int x4), (5, .int x5)] [] w (fJ1_indexOfChar_4cfef_s1_l7 x3 x4 x5 w) := by
  exact q_it_ind (fun rc => ∀ x3 x4 x5 w, q_J X S l mJ1_indexOfChar_4cfef 0 q_tI 7 [(0, .ref 1111), (3, .int x3), (4, .int x4), (5, .int x5)] [] w (rc x3 x4 x5 w)) _ _ (fun _ _ _ _ => q_none) (fun rc hrc => jJ1_indexOfChar_4cfef_s1_h7 X l S rc hrc) q_N
def fJ1_indexOfChar_4cfef_s1 (a1 : Int32) (a2 : Int32) (a3 : Int32) (w : q_W) : Option (Int32 × q_W) :=
  q_lt (Int8.toInt32 (Int32.toInt8 a1)) fun y1 =>
  fJ1_indexOfChar_4cfef_s1_l7 a3 y1 a2 w
set_option maxHeartbeats 4000000 in
set_option maxRecDepth 100000 in
theorem kJ1_indexOfChar_4cfef_s1 (X : q_X) (l : Launch) (S : q_S) (a1 : Int32) (a2 : Int32) (a3 : Int32) (w : q_W) : q_Ct X S l mJ1_indexOfChar_4cfef 0 q_tI [.ref 1111, .int a1, .int a2, .int a3] w (fJ1_indexOfChar_4cfef_s1 a1 a2 a3 w) := by
  refine q_intro (lv := [(0, .ref 1111), (1, .int a1), (2, .int a2), (3, .int a3)]) (by decide +kernel) rfl (Nat.le_of_ble_eq_true rfl) rfl ?_
  refine q_iload_n 1 eJ1_indexOfChar_4cfef_0 rfl rfl ?_
  refine q_i2b eJ1_indexOfChar_4cfef_1 ?_
  refine q_ltI (fun y1 => ?_)
  refine q_istore (lv' := [(4, .int y1), (0, .ref 1111), (1, .int a1), (2, .int a2), (3, .int a3)]) eJ1_indexOfChar_4cfef_2 (by decide) rfl ?_
  refine q_iload_n 3 eJ1_indexOfChar_4cfef_4 rfl rfl ?_
  refine q_istore (lv' := [(5, .int a2), (4, .int y1), (0, .ref 1111), (1, .int a1), (2, .int a2), (3, .int a3)]) eJ1_indexOfChar_4cfef_5 (by decide) rfl ?_
  exact q_sub [2, 5, 1, 0] rfl (jJ1_indexOfChar_4cfef_s1_l7 X l S a3 y1 a2 w)
def fJ1_indexOf_4cfef_s1 (a1 : Int32) (a2 : Int32) (a3 : Int32) (w : q_W) : Option (Int32 × q_W) :=
  q_b (fJ1_canEncode_9a6ad_s1 a1 w) fun r1 w2 =>
  if r1 = 0 then
    some ((-1), w2)
  else
    q_lt (q_imax a2 0) fun y3 =>
    q_lt (q_imin a3 11) fun y4 =>
    if y3 < y4 then
      q_b (fJ1_indexOfChar_4cfef_s1 a1 y3 y4 w2) fun r5 w6 =>
      some (r5, w6)
    else
      some ((-1), w2)
set_option maxHeartbeats 4000000 in
set_option maxRecDepth 100000 in
theorem kJ1_indexOf_4cfef_s1 (X : q_X) (l : Launch) (S : q_S) (a1 : Int32) (a2 : Int32) (a3 : Int32) (w : q_W) : q_Ct X S l mJ1_indexOf_4cfef 1 q_tI [.ref 1111, .int a1, .int a2, .int a3] w (fJ1_indexOf_4cfef_s1 a1 a2 a3 w) := by
  refine q_intro (lv := [(0, .ref 1111), (1, .int a1), (2, .int a2), (3, .int a3)]) (by decide +kernel) rfl (Nat.le_of_ble_eq_true rfl) rfl ?_
  refine q_iload_n 1 eJ1_indexOf_4cfef_0 rfl rfl ?_
  refine q_callSI (As := [.int a1]) (st := []) eJ1_indexOf_4cfef_1 cv_J1_88 (kJ1_canEncode_9a6ad_s1 X l S a1 w) rfl rfl (Nat.le_of_ble_eq_true rfl) (by decide) (fun r1 w2 => ?_)
  refine q_if_ne (tgt := 9) eJ1_indexOf_4cfef_4 (by decide) (fun _ => ?_) (fun _ => ?_)
  · refine q_iconst eJ1_indexOf_4cfef_7 kiconst_m1 ?_
    exact q_ireturn eJ1_indexOf_4cfef_8 rfl
  · refine q_iload_n 2 eJ1_indexOf_4cfef_9 rfl rfl ?_
    refine q_iconst eJ1_indexOf_4cfef_10 kiconst_0 ?_
    refine q_mmax eJ1_indexOf_4cfef_11 cv_J1_92 (Nat.le_of_ble_eq_true rfl) (by decide) ?_
    refine q_ltI (fun y3 => ?_)
    refine q_istore_n (lv' := [(2, .int y3), (0, .ref 1111), (1, .int a1), (3, .int a3)]) eJ1_indexOf_4cfef_14 rfl (by decide) rfl ?_
    refine q_iload_n 3 eJ1_indexOf_4cfef_15 rfl rfl ?_
    refine q_aload_n 1 eJ1_indexOf_4cfef_16 rfl rfl ?_
    refine q_sblen 1 (v := 11) eJ1_indexOf_4cfef_17 (by decide) (by decide) ?_
    refine q_mmin eJ1_indexOf_4cfef_18 cv_J1_38 (Nat.le_of_ble_eq_true rfl) (by decide) ?_
    refine q_ltI (fun y4 => ?_)
    refine q_istore_n (lv' := [(3, .int y4), (2, .int y3), (0, .ref 1111), (1, .int a1)]) eJ1_indexOf_4cfef_21 rfl (by decide) rfl ?_
    refine q_iload_n 1 eJ1_indexOf_4cfef_22 rfl rfl ?_
    refine q_iload_n 0 eJ1_indexOf_4cfef_23 rfl rfl ?_
    refine q_icmp_lt (tgt := 29) eJ1_indexOf_4cfef_24 (by decide) (fun _ => ?_) (fun _ => ?_)
    · refine q_aload_n 2 eJ1_indexOf_4cfef_29 rfl rfl ?_
      refine q_iload_n 3 eJ1_indexOf_4cfef_30 rfl rfl ?_
      refine q_iload_n 1 eJ1_indexOf_4cfef_31 rfl rfl ?_
      refine q_iload_n 0 eJ1_indexOf_4cfef_32 rfl rfl ?_
      refine q_callSI (As := [.ref 1111, .int a1, .int y3, .int y4]) (st := []) eJ1_indexOf_4cfef_33 cv_J1_95 (kJ1_indexOfChar_4cfef_s1 X l S a1 y3 y4 w2) rfl rfl (Nat.le_of_ble_eq_true rfl) (by decide) (fun r5 w6 => ?_)
      exact q_ireturn eJ1_indexOf_4cfef_36 rfl
    · refine q_iconst eJ1_indexOf_4cfef_27 kiconst_m1 ?_
      exact q_ireturn eJ1_indexOf_4cfef_28 rfl
def fJ0_isLatin1_aae02_s1 (w : q_W) : Option (Int32 × q_W) :=
  if (1 : Int32) = 0 then
    some (0, w)
  else
    if (0 : Int32) = 0 then
      some (1, w)
    else
      some (0, w)
set_option maxHeartbeats 4000000 in
set_option maxRecDepth 100000 in
theorem kJ0_isLatin1_aae02_s1 (X : q_X) (l : Launch) (S : q_S) (w : q_W) : q_Ct X S l mJ0_isLatin1_aae02 0 q_tI [.ref 1101] w (fJ0_isLatin1_aae02_s1 w) := by
  refine q_intro (lv := [(0, .ref 1101)]) (by decide +kernel) rfl (Nat.le_of_ble_eq_true rfl) rfl ?_
  refine q_scmp eJ0_isLatin1_aae02_0 sz_J0 ?_
  refine q_if_eq (tgt := 17) eJ0_isLatin1_aae02_3 (by decide) (fun _ => ?_) (fun _ => ?_)
  · refine q_iconst eJ0_isLatin1_aae02_17 kiconst_0 ?_
    exact q_zret eJ0_isLatin1_aae02_18 rfl rfl
  · refine q_aload_n 0 eJ0_isLatin1_aae02_6 rfl rfl ?_
    refine q_scod 1 eJ0_isLatin1_aae02_7 (by decide) sc_J0 ?_
    refine q_if_ne (tgt := 17) eJ0_isLatin1_aae02_10 (by decide) (fun _ => ?_) (fun _ => ?_)
    · refine q_iconst eJ0_isLatin1_aae02_13 kiconst_1 ?_
      refine q_goto (tgt := 18) eJ0_isLatin1_aae02_14 (by decide) ?_
      exact q_zret eJ0_isLatin1_aae02_18 rfl rfl
    · refine q_iconst eJ0_isLatin1_aae02_17 kiconst_0 ?_
      exact q_zret eJ0_isLatin1_aae02_18 rfl rfl
def fJ0_coder_7d493_s1 (w : q_W) : Option (Int32 × q_W) :=
  if (1 : Int32) = 0 then
    some (1, w)
  else
    some (0, w)
set_option maxHeartbeats 4000000 in
set_option maxRecDepth 100000 in
theorem kJ0_coder_7d493_s1 (X : q_X) (l : Launch) (S : q_S) (w : q_W) : q_Ct X S l mJ0_coder_7d493 0 q_tI [.ref 1101] w (fJ0_coder_7d493_s1 w) := by
  refine q_intro (lv := [(0, .ref 1101)]) (by decide +kernel) rfl (Nat.le_of_ble_eq_true rfl) rfl ?_
  refine q_scmp eJ0_coder_7d493_0 sz_J0 ?_
  refine q_if_eq (tgt := 13) eJ0_coder_7d493_3 (by decide) (fun _ => ?_) (fun _ => ?_)
  · refine q_iconst eJ0_coder_7d493_13 kiconst_1 ?_
    exact q_nret eJ0_coder_7d493_14 rfl rfl
  · refine q_aload_n 0 eJ0_coder_7d493_6 rfl rfl ?_
    refine q_scod 1 eJ0_coder_7d493_7 (by decide) sc_J0 ?_
    refine q_goto (tgt := 14) eJ0_coder_7d493_10 (by decide) ?_
    exact q_nret eJ0_coder_7d493_14 rfl rfl
def fJ0_length_8abf5_s1 (w : q_W) : Option (Int32 × q_W) :=
  q_b (fJ0_coder_7d493_s1 w) fun r1 w2 =>
  some ((11 >>> (r1 &&& 31)), w2)
set_option maxHeartbeats 4000000 in
set_option maxRecDepth 100000 in
theorem kJ0_length_8abf5_s1 (X : q_X) (l : Launch) (S : q_S) (w : q_W) : q_Ct X S l mJ0_length_8abf5 1 q_tI [.ref 1101] w (fJ0_length_8abf5_s1 w) := by
  refine q_intro (lv := [(0, .ref 1101)]) (by decide +kernel) rfl (Nat.le_of_ble_eq_true rfl) rfl ?_
  refine q_aload_n 0 eJ0_length_8abf5_0 rfl rfl ?_
  refine q_sval 1 eJ0_length_8abf5_1 (by decide) sv_J0 ?_
  refine q_sblen 1 (v := 11) eJ0_length_8abf5_4 (by decide) (by decide) ?_
  refine q_aload_n 0 eJ0_length_8abf5_5 rfl rfl ?_
  refine q_callTI 1 (As := []) (st := [.int 11]) eJ0_length_8abf5_6 cv_J0_335 (kJ0_coder_7d493_s1 X l S w) (by decide) rfl rfl rfl (Nat.le_of_ble_eq_true rfl) (by decide) (fun r1 w2 => ?_)
  refine q_ishr eJ0_length_8abf5_9 ?_
  exact q_ireturn eJ0_length_8abf5_10 rfl
def fJ0_indexOf_7cf53_s1 (a1 : Int32) (a2 : Int32) (w : q_W) : Option (Int32 × q_W) :=
  q_b (fJ0_isLatin1_aae02_s1 w) fun r1 w2 =>
  if r1 = 0 then
    q_b (fJ0_length_8abf5_s1 w2) fun r3 w4 =>
    none
  else
    q_b (fJ0_length_8abf5_s1 w2) fun r5 w6 =>
    q_b (fJ1_indexOf_4cfef_s1 a1 a2 r5 w6) fun r7 w8 =>
    some (r7, w8)
set_option maxHeartbeats 4000000 in
set_option maxRecDepth 100000 in
theorem kJ0_indexOf_7cf53_s1 (X : q_X) (l : Launch) (S : q_S) (a1 : Int32) (a2 : Int32) (w : q_W) : q_Ct X S l mJ0_indexOf_7cf53 2 q_tI [.ref 1101, .int a1, .int a2] w (fJ0_indexOf_7cf53_s1 a1 a2 w) := by
  refine q_intro (lv := [(0, .ref 1101), (1, .int a1), (2, .int a2)]) (by decide +kernel) rfl (Nat.le_of_ble_eq_true rfl) rfl ?_
  refine q_aload_n 0 eJ0_indexOf_7cf53_0 rfl rfl ?_
  refine q_callTI 1 (As := []) (st := []) eJ0_indexOf_7cf53_1 cv_J0_492 (kJ0_isLatin1_aae02_s1 X l S w) (by decide) rfl rfl rfl (Nat.le_of_ble_eq_true rfl) (by decide) (fun r1 w2 => ?_)
  refine q_if_eq (tgt := 23) eJ0_indexOf_7cf53_4 (by decide) (fun _ => ?_) (fun _ => ?_)
  · refine q_aload_n 0 eJ0_indexOf_7cf53_23 rfl rfl ?_
    refine q_sval 1 eJ0_indexOf_7cf53_24 (by decide) sv_J0 ?_
    refine q_iload_n 1 eJ0_indexOf_7cf53_27 rfl rfl ?_
    refine q_iload_n 2 eJ0_indexOf_7cf53_28 rfl rfl ?_
    refine q_aload_n 0 eJ0_indexOf_7cf53_29 rfl rfl ?_
    refine q_callTI 1 (As := []) (st := [.int a2, .int a1, .ref 1111]) eJ0_indexOf_7cf53_30 cv_J0_505 (kJ0_length_8abf5_s1 X l S w2) (by decide) rfl rfl rfl (Nat.le_of_ble_eq_true rfl) (by decide) (fun r3 w4 => ?_)
    exact q_none
  · refine q_aload_n 0 eJ0_indexOf_7cf53_7 rfl rfl ?_
    refine q_sval 1 eJ0_indexOf_7cf53_8 (by decide) sv_J0 ?_
    refine q_iload_n 1 eJ0_indexOf_7cf53_11 rfl rfl ?_
    refine q_iload_n 2 eJ0_indexOf_7cf53_12 rfl rfl ?_
    refine q_aload_n 0 eJ0_indexOf_7cf53_13 rfl rfl ?_
    refine q_callTI 1 (As := []) (st := [.int a2, .int a1, .ref 1111]) eJ0_indexOf_7cf53_14 cv_J0_505 (kJ0_length_8abf5_s1 X l S w2) (by decide) rfl rfl rfl (Nat.le_of_ble_eq_true rfl) (by decide) (fun r5 w6 => ?_)
    refine q_callSI (As := [.ref 1111, .int a1, .int a2, .int r5]) (st := []) eJ0_indexOf_7cf53_17 cv_J0_637 (kJ1_indexOf_4cfef_s1 X l S a1 a2 r5 w6) rfl rfl (Nat.le_of_ble_eq_true rfl) (by decide) (fun r7 w8 => ?_)
    refine q_goto (tgt := 36) eJ0_indexOf_7cf53_20 (by decide) ?_
    exact q_ireturn eJ0_indexOf_7cf53_36 rfl
def fJ0_indexOf_0f7a4_s1 (a1 : Int32) (w : q_W) : Option (Int32 × q_W) :=
  q_b (fJ0_indexOf_7cf53_s1 a1 0 w) fun r1 w2 =>
  some (r1, w2)
set_option maxHeartbeats 4000000 in
set_option maxRecDepth 100000 in
theorem kJ0_indexOf_0f7a4_s1 (X : q_X) (l : Launch) (S : q_S) (a1 : Int32) (w : q_W) : q_Ct X S l mJ0_indexOf_0f7a4 3 q_tI [.ref 1101, .int a1] w (fJ0_indexOf_0f7a4_s1 a1 w) := by
  refine q_intro (lv := [(0, .ref 1101), (1, .int a1)]) (by decide +kernel) rfl (Nat.le_of_ble_eq_true rfl) rfl ?_
  refine q_aload_n 0 eJ0_indexOf_0f7a4_0 rfl rfl ?_
  refine q_iload_n 1 eJ0_indexOf_0f7a4_1 rfl rfl ?_
  refine q_iconst eJ0_indexOf_0f7a4_2 kiconst_0 ?_
  refine q_callTI 1 (As := [.int a1, .int 0]) (st := []) eJ0_indexOf_0f7a4_3 cv_J0_633 (kJ0_indexOf_7cf53_s1 X l S a1 0 w) (by decide) rfl rfl rfl (Nat.le_of_ble_eq_true rfl) (by decide) (fun r1 w2 => ?_)
  exact q_ireturn eJ0_indexOf_0f7a4_6 rfl
def fX0_begin (q1 : Nat) (a2 : Int32) (w : q_W) : Option (Unit × q_W) :=
  if cC q1 = 6 then
  q_lt (q_sR w 12 1 q1) fun w1 =>
  q_lt (q_sI w1 12 2 0) fun w2 =>
  q_lt (q_sI w2 12 3 (q_imin a2 9)) fun w3 =>
  some ((), w3)
  else none
set_option maxHeartbeats 4000000 in
set_option maxRecDepth 100000 in
theorem kX0_begin (X : q_X) (l : Launch) (q1 : Nat) (a2 : Int32) (w : q_W) : q_Ct X S_C l mX0_begin 1 q_tV [.ref 12, .ref q1, .int a2] w (fX0_begin q1 a2 w) := by
  refine q_intro (lv := [(0, .ref 12), (1, .ref q1), (2, .int a2)]) (by decide +kernel) rfl (Nat.le_of_ble_eq_true rfl) rfl ?_
  refine q_ck (fun h1 => ?_)
  refine q_aload_n 0 eX0_begin_0 rfl rfl ?_
  refine q_aload_n 1 eX0_begin_1 rfl rfl ?_
  refine q_putR eX0_begin_2 fp_0_15 tC_12 rfl ⟨rfl, rfl⟩ ?_
  refine q_ltW (fun w1 => ?_)
  refine q_aload_n 0 eX0_begin_5 rfl rfl ?_
  refine q_iconst eX0_begin_6 kiconst_0 ?_
  refine q_putI eX0_begin_7 fp_0_19 tC_12 rfl ⟨rfl, rfl⟩ ?_
  refine q_ltW (fun w2 => ?_)
  refine q_aload_n 0 eX0_begin_10 rfl rfl ?_
  refine q_iload_n 2 eX0_begin_11 rfl rfl ?_
  refine q_bipush eX0_begin_12 kbipush_9 ?_
  refine q_mmin eX0_begin_14 cv_0_23 (Nat.le_of_ble_eq_true rfl) (by decide) ?_
  refine q_putI eX0_begin_17 fp_0_29 tC_12 rfl ⟨rfl, rfl⟩ ?_
  refine q_ltW (fun w3 => ?_)
  exact q_return eX0_begin_20 rfl
def fX0_pick (a1 : Int32) (w : q_W) : Option (Unit × q_W) :=
  if (w.1 12 2) < 0 then
    some ((), w)
  else
    if 120 ≤ (w.1 12 2) then
      some ((), w)
    else
      q_lt (w.1 12 2) fun y1 =>
      if q_inb y1 120 then
      q_lt (q_sI w 13 (q_ix y1) a1) fun w2 =>
      q_lt (q_sI w2 12 2 ((w2.1 12 2) + 1)) fun w3 =>
      some ((), w3)
      else none
set_option maxHeartbeats 4000000 in
set_option maxRecDepth 100000 in
theorem kX0_pick (X : q_X) (l : Launch) (a1 : Int32) (w : q_W) : q_Ct X S_C l mX0_pick 0 q_tV [.ref 12, .int a1] w (fX0_pick a1 w) := by
  refine q_intro (lv := [(0, .ref 12), (1, .int a1)]) (by decide +kernel) rfl (Nat.le_of_ble_eq_true rfl) rfl ?_
  refine q_aload_n 0 eX0_pick_0 rfl rfl ?_
  refine q_getI eX0_pick_1 fl_0_19 tC_12 rfl ?_
  refine q_if_lt (tgt := 36) eX0_pick_4 (by decide) (fun _ => ?_) (fun _ => ?_)
  · exact q_return eX0_pick_36 rfl
  · refine q_aload_n 0 eX0_pick_7 rfl rfl ?_
    refine q_getI eX0_pick_8 fl_0_19 tC_12 rfl ?_
    refine q_bipush eX0_pick_11 kbipush_120 ?_
    refine q_icmp_ge (tgt := 36) eX0_pick_13 (by decide) (fun _ => ?_) (fun _ => ?_)
    · exact q_return eX0_pick_36 rfl
    · refine q_aload_n 0 eX0_pick_16 rfl rfl ?_
      refine q_getG (v := 13) eX0_pick_17 fl_0_11 tC_12 rfl gC_12_0 ?_
      refine q_aload_n 0 eX0_pick_20 rfl rfl ?_
      refine q_getI eX0_pick_21 fl_0_19 tC_12 rfl ?_
      refine q_iload_n 1 eX0_pick_24 rfl rfl ?_
      refine q_ltI1 (fun y1 => ?_)
      refine q_iast eX0_pick_25 tC_13 nC_13 ?_
      refine q_ltW (fun w2 => ?_)
      refine q_aload_n 0 eX0_pick_26 rfl rfl ?_
      refine q_dup eX0_pick_27 rfl ?_
      refine q_getI eX0_pick_28 fl_0_19 tC_12 rfl ?_
      refine q_iconst eX0_pick_31 kiconst_1 ?_
      refine q_iadd eX0_pick_32 ?_
      refine q_putI eX0_pick_33 fp_0_19 tC_12 rfl ⟨rfl, rfl⟩ ?_
      refine q_ltW (fun w3 => ?_)
      exact q_return eX0_pick_36 rfl
def fX0_size (w : q_W) : Option (Int32 × q_W) :=
  some ((w.1 12 2), w)
set_option maxHeartbeats 4000000 in
set_option maxRecDepth 100000 in
theorem kX0_size (X : q_X) (l : Launch) (w : q_W) : q_Ct X S_C l mX0_size 0 q_tI [.ref 12] w (fX0_size w) := by
  refine q_intro (lv := [(0, .ref 12)]) (by decide +kernel) rfl (Nat.le_of_ble_eq_true rfl) rfl ?_
  refine q_aload_n 0 eX0_size_0 rfl rfl ?_
  refine q_getI eX0_size_1 fl_0_19 tC_12 rfl ?_
  exact q_ireturn eX0_size_4 rfl
def fX0_reachedX (w : q_W) : Option (Int32 × q_W) :=
  some ((w.1 12 4), w)
set_option maxHeartbeats 4000000 in
set_option maxRecDepth 100000 in
theorem kX0_reachedX (X : q_X) (l : Launch) (w : q_W) : q_Ct X S_C l mX0_reachedX 0 q_tI [.ref 12] w (fX0_reachedX w) := by
  refine q_intro (lv := [(0, .ref 12)]) (by decide +kernel) rfl (Nat.le_of_ble_eq_true rfl) rfl ?_
  refine q_aload_n 0 eX0_reachedX_0 rfl rfl ?_
  refine q_getI eX0_reachedX_1 fl_0_32 tC_12 rfl ?_
  exact q_ireturn eX0_reachedX_4 rfl
def fX0_reachedY (w : q_W) : Option (Int32 × q_W) :=
  some ((w.1 12 5), w)
set_option maxHeartbeats 4000000 in
set_option maxRecDepth 100000 in
theorem kX0_reachedY (X : q_X) (l : Launch) (w : q_W) : q_Ct X S_C l mX0_reachedY 0 q_tI [.ref 12] w (fX0_reachedY w) := by
  refine q_intro (lv := [(0, .ref 12)]) (by decide +kernel) rfl (Nat.le_of_ble_eq_true rfl) rfl ?_
  refine q_aload_n 0 eX0_reachedY_0 rfl rfl ?_
  refine q_getI eX0_reachedY_1 fl_0_35 tC_12 rfl ?_
  exact q_ireturn eX0_reachedY_4 rfl
def fX0_isPoint (a0 : Int32) (a1 : Int32) (w : q_W) : Option (Int32 × q_W) :=
  if a0 < 0 then
    some (0, w)
  else
    if 1024 ≤ a0 then
      some (0, w)
    else
      if a1 < 0 then
        some (0, w)
      else
        if 1024 ≤ a1 then
          some (0, w)
        else
          some (1, w)
set_option maxHeartbeats 4000000 in
set_option maxRecDepth 100000 in
theorem kX0_isPoint (X : q_X) (l : Launch) (a0 : Int32) (a1 : Int32) (w : q_W) : q_Ct X S_C l mX0_isPoint 0 q_tI [.int a0, .int a1] w (fX0_isPoint a0 a1 w) := by
  refine q_intro (lv := [(0, .int a0), (1, .int a1)]) (by decide +kernel) rfl (Nat.le_of_ble_eq_true rfl) rfl ?_
  refine q_iload_n 0 eX0_isPoint_0 rfl rfl ?_
  refine q_if_lt (tgt := 26) eX0_isPoint_1 (by decide) (fun _ => ?_) (fun _ => ?_)
  · refine q_iconst eX0_isPoint_26 kiconst_0 ?_
    exact q_zret eX0_isPoint_27 rfl rfl
  · refine q_iload_n 0 eX0_isPoint_4 rfl rfl ?_
    refine q_sipush eX0_isPoint_5 ksipush_1024 ?_
    refine q_icmp_ge (tgt := 26) eX0_isPoint_8 (by decide) (fun _ => ?_) (fun _ => ?_)
    · refine q_iconst eX0_isPoint_26 kiconst_0 ?_
      exact q_zret eX0_isPoint_27 rfl rfl
    · refine q_iload_n 1 eX0_isPoint_11 rfl rfl ?_
      refine q_if_lt (tgt := 26) eX0_isPoint_12 (by decide) (fun _ => ?_) (fun _ => ?_)
      · refine q_iconst eX0_isPoint_26 kiconst_0 ?_
        exact q_zret eX0_isPoint_27 rfl rfl
      · refine q_iload_n 1 eX0_isPoint_15 rfl rfl ?_
        refine q_sipush eX0_isPoint_16 ksipush_1024 ?_
        refine q_icmp_ge (tgt := 26) eX0_isPoint_19 (by decide) (fun _ => ?_) (fun _ => ?_)
        · refine q_iconst eX0_isPoint_26 kiconst_0 ?_
          exact q_zret eX0_isPoint_27 rfl rfl
        · refine q_iconst eX0_isPoint_22 kiconst_1 ?_
          refine q_goto (tgt := 27) eX0_isPoint_23 (by decide) ?_
          exact q_zret eX0_isPoint_27 rfl rfl
def fX0_toothDrag_n16 (x1 : Int32) (x2 : Int32) (s0 : Int32) (w : q_W) : Option (Int32 × q_W) :=
  if x2 = 0 then none else
  q_lt (s0 / x2) fun y1 =>
  if y1 ≤ 10 then
    q_lt (1 <<< (y1 &&& 31)) fun y2 =>
    if y2 = 0 then none else
    some ((x1 / y2), w)
  else
    some (0, w)
set_option maxHeartbeats 4000000 in
set_option maxRecDepth 100000 in
theorem jX0_toothDrag_n16 (X : q_X) (l : Launch) (x1 : Int32) (x2 : Int32) (s0 : Int32) (w : q_W) : q_J X S_C l mX0_toothDrag 0 q_tI 16 [(1, .int x1), (2, .int x2)] [.int s0] w (fX0_toothDrag_n16 x1 x2 s0 w) := by
  refine q_iload_n 1 eX0_toothDrag_16 rfl rfl ?_
  refine q_idiv eX0_toothDrag_17 ?_
  refine q_ltI (fun y1 => ?_)
  refine q_istore_n (lv' := [(3, .int y1), (1, .int x1), (2, .int x2)]) eX0_toothDrag_18 rfl (by decide) rfl ?_
  refine q_iload_n 0 eX0_toothDrag_19 rfl rfl ?_
  refine q_bipush eX0_toothDrag_20 kbipush_10 ?_
  refine q_icmp_le (tgt := 29) eX0_toothDrag_22 (by decide) (fun _ => ?_) (fun _ => ?_)
  · refine q_iload_n 1 eX0_toothDrag_29 rfl rfl ?_
    refine q_iconst eX0_toothDrag_30 kiconst_1 ?_
    refine q_iload_n 0 eX0_toothDrag_31 rfl rfl ?_
    refine q_ishl eX0_toothDrag_32 ?_
    refine q_ltI (fun y2 => ?_)
    refine q_idiv eX0_toothDrag_33 ?_
    exact q_ireturn eX0_toothDrag_34 rfl
  · refine q_iconst eX0_toothDrag_25 kiconst_0 ?_
    refine q_goto (tgt := 34) eX0_toothDrag_26 (by decide) ?_
    exact q_ireturn eX0_toothDrag_34 rfl
def fX0_toothDrag (a0 : Int32) (a1 : Int32) (a2 : Int32) (w : q_W) : Option (Int32 × q_W) :=
  if 0 < a2 then
    if 0 ≤ a0 then
      fX0_toothDrag_n16 a1 a2 a0 w
    else
      fX0_toothDrag_n16 a1 a2 (0 - a0) w
  else
    some (0, w)
set_option maxHeartbeats 4000000 in
set_option maxRecDepth 100000 in
theorem kX0_toothDrag (X : q_X) (l : Launch) (a0 : Int32) (a1 : Int32) (a2 : Int32) (w : q_W) : q_Ct X S_C l mX0_toothDrag 0 q_tI [.int a0, .int a1, .int a2] w (fX0_toothDrag a0 a1 a2 w) := by
  refine q_intro (lv := [(0, .int a0), (1, .int a1), (2, .int a2)]) (by decide +kernel) rfl (Nat.le_of_ble_eq_true rfl) rfl ?_
  refine q_iload_n 2 eX0_toothDrag_0 rfl rfl ?_
  refine q_if_gt (tgt := 6) eX0_toothDrag_1 (by decide) (fun _ => ?_) (fun _ => ?_)
  · refine q_iload_n 0 eX0_toothDrag_6 rfl rfl ?_
    refine q_if_ge (tgt := 15) eX0_toothDrag_7 (by decide) (fun _ => ?_) (fun _ => ?_)
    · refine q_iload_n 0 eX0_toothDrag_15 rfl rfl ?_
      exact q_sub [1, 2] rfl (jX0_toothDrag_n16 X l a1 a2 a0 w)
    · refine q_iload_n 0 eX0_toothDrag_10 rfl rfl ?_
      refine q_ineg eX0_toothDrag_11 ?_
      refine q_goto (tgt := 16) eX0_toothDrag_12 (by decide) ?_
      exact q_sub [1, 2] rfl (jX0_toothDrag_n16 X l a1 a2 (0 - a0) w)
  · refine q_iconst eX0_toothDrag_4 kiconst_0 ?_
    exact q_ireturn eX0_toothDrag_5 rfl
def fX0_waveDrag_n24 (x1 : Int32) (x2 : Int32) (s0 : Int32) (w : q_W) : Option (Int32 × q_W) :=
  if x1 = 0 then none else
  some (((x2 * s0) / x1), w)
set_option maxHeartbeats 4000000 in
set_option maxRecDepth 100000 in
theorem jX0_waveDrag_n24 (X : q_X) (l : Launch) (x1 : Int32) (x2 : Int32) (s0 : Int32) (w : q_W) : q_J X S_C l mX0_waveDrag 0 q_tI 24 [(1, .int x1), (2, .int x2)] [.int s0] w (fX0_waveDrag_n24 x1 x2 s0 w) := by
  refine q_istore (lv' := [(4, .int s0), (1, .int x1), (2, .int x2)]) eX0_waveDrag_24 (by decide) rfl ?_
  refine q_iload_n 2 eX0_waveDrag_26 rfl rfl ?_
  refine q_iload 0 eX0_waveDrag_27 rfl ?_
  refine q_imul eX0_waveDrag_29 ?_
  refine q_iload_n 1 eX0_waveDrag_30 rfl rfl ?_
  refine q_idiv eX0_waveDrag_31 ?_
  exact q_ireturn eX0_waveDrag_32 rfl
def fX0_waveDrag (a0 : Int32) (a1 : Int32) (a2 : Int32) (w : q_W) : Option (Int32 × q_W) :=
  if 0 < a1 then
    if a1 = 0 then none else
    q_lt (a0 - a0 / a1 * a1) fun y1 =>
    if (a1 - y1) ≤ y1 then
      fX0_waveDrag_n24 a1 a2 (a1 - y1) w
    else
      fX0_waveDrag_n24 a1 a2 y1 w
  else
    some (0, w)
set_option maxHeartbeats 4000000 in
set_option maxRecDepth 100000 in
theorem kX0_waveDrag (X : q_X) (l : Launch) (a0 : Int32) (a1 : Int32) (a2 : Int32) (w : q_W) : q_Ct X S_C l mX0_waveDrag 0 q_tI [.int a0, .int a1, .int a2] w (fX0_waveDrag a0 a1 a2 w) := by
  refine q_intro (lv := [(0, .int a0), (1, .int a1), (2, .int a2)]) (by decide +kernel) rfl (Nat.le_of_ble_eq_true rfl) rfl ?_
  refine q_iload_n 1 eX0_waveDrag_0 rfl rfl ?_
  refine q_if_gt (tgt := 6) eX0_waveDrag_1 (by decide) (fun _ => ?_) (fun _ => ?_)
  · refine q_iload_n 0 eX0_waveDrag_6 rfl rfl ?_
    refine q_iload_n 1 eX0_waveDrag_7 rfl rfl ?_
    refine q_irem eX0_waveDrag_8 ?_
    refine q_ltI (fun y1 => ?_)
    refine q_istore_n (lv' := [(3, .int y1), (0, .int a0), (1, .int a1), (2, .int a2)]) eX0_waveDrag_9 rfl (by decide) rfl ?_
    refine q_iload_n 0 eX0_waveDrag_10 rfl rfl ?_
    refine q_iload_n 2 eX0_waveDrag_11 rfl rfl ?_
    refine q_iload_n 0 eX0_waveDrag_12 rfl rfl ?_
    refine q_isub eX0_waveDrag_13 ?_
    refine q_icmp_ge (tgt := 21) eX0_waveDrag_14 (by decide) (fun _ => ?_) (fun _ => ?_)
    · refine q_iload_n 2 eX0_waveDrag_21 rfl rfl ?_
      refine q_iload_n 0 eX0_waveDrag_22 rfl rfl ?_
      refine q_isub eX0_waveDrag_23 ?_
      exact q_sub [2, 3] rfl (jX0_waveDrag_n24 X l a1 a2 (a1 - y1) w)
    · refine q_iload_n 0 eX0_waveDrag_17 rfl rfl ?_
      refine q_goto (tgt := 24) eX0_waveDrag_18 (by decide) ?_
      exact q_sub [2, 3] rfl (jX0_waveDrag_n24 X l a1 a2 y1 w)
  · refine q_iconst eX0_waveDrag_4 kiconst_0 ?_
    exact q_ireturn eX0_waveDrag_5 rfl
def fX6_kindOf (q0 : Nat) (a1 : Int32) (w : q_W) : Option (Int32 × q_W) :=
  if cC q0 = 6 then
  if a1 < 0 then
    some ((-1), w)
  else
    if (w.1 q0 2) ≤ a1 then
      some ((-1), w)
    else
      if 480 ≤ a1 then
        some ((-1), w)
      else
        if q_inb a1 480 then
        some ((w.1 (fC q0 0) (q_ix a1)), w)
        else none
  else none
set_option maxHeartbeats 4000000 in
set_option maxRecDepth 100000 in
theorem kX6_kindOf (X : q_X) (l : Launch) (q0 : Nat) (a1 : Int32) (w : q_W) : q_Ct X S_C l mX6_kindOf 0 q_tI [.ref q0, .int a1] w (fX6_kindOf q0 a1 w) := by
  refine q_intro (lv := [(0, .ref q0), (1, .int a1)]) (by decide +kernel) rfl (Nat.le_of_ble_eq_true rfl) rfl ?_
  refine q_ck (fun h0 => ?_)
  refine q_iload_n 1 eX6_kindOf_0 rfl rfl ?_
  refine q_if_lt (tgt := 28) eX6_kindOf_1 (by decide) (fun _ => ?_) (fun _ => ?_)
  · refine q_iconst eX6_kindOf_28 kiconst_m1 ?_
    exact q_ireturn eX6_kindOf_29 rfl
  · refine q_iload_n 1 eX6_kindOf_4 rfl rfl ?_
    refine q_aload_n 0 eX6_kindOf_5 rfl rfl ?_
    refine q_getI eX6_kindOf_6 fl_6_22 h0 rfl ?_
    refine q_icmp_ge (tgt := 28) eX6_kindOf_9 (by decide) (fun _ => ?_) (fun _ => ?_)
    · refine q_iconst eX6_kindOf_28 kiconst_m1 ?_
      exact q_ireturn eX6_kindOf_29 rfl
    · refine q_iload_n 1 eX6_kindOf_12 rfl rfl ?_
      refine q_sipush eX6_kindOf_13 ksipush_480 ?_
      refine q_icmp_ge (tgt := 28) eX6_kindOf_16 (by decide) (fun _ => ?_) (fun _ => ?_)
      · refine q_iconst eX6_kindOf_28 kiconst_m1 ?_
        exact q_ireturn eX6_kindOf_29 rfl
      · refine q_aload_n 0 eX6_kindOf_19 rfl rfl ?_
        refine q_getG (v := (fC q0 0)) eX6_kindOf_20 fl_6_11 h0 rfl rfl ?_
        refine q_iload_n 1 eX6_kindOf_23 rfl rfl ?_
        refine q_iald eX6_kindOf_24 (fxC_6_0 q0 h0) (flC_6_0 q0 h0) ?_
        refine q_goto (tgt := 29) eX6_kindOf_25 (by decide) ?_
        exact q_ireturn eX6_kindOf_29 rfl
def fX6_numberOf_n34 (q0 : Nat) (x1 : Int32) (x2 : Int32) (s0 : Int32) (w : q_W) : Option (Int32 × q_W) :=
  if s0 = 0 then
    some (0, w)
  else
    q_lt ((x1 * 6) + x2) fun y1 =>
    if q_inb y1 2880 then
    some ((w.1 (fC q0 1) (q_ix y1)), w)
    else none
set_option maxHeartbeats 4000000 in
set_option maxRecDepth 100000 in
theorem jX6_numberOf_n34 (X : q_X) (l : Launch) (q0 : Nat) (h0 : cC q0 = 6) (x1 : Int32) (x2 : Int32) (s0 : Int32) (w : q_W) : q_J X S_C l mX6_numberOf 0 q_tI 34 [(0, .ref q0), (1, .int x1), (2, .int x2)] [.int s0] w (fX6_numberOf_n34 q0 x1 x2 s0 w) := by
  refine q_istore_n (lv' := [(3, .int s0), (0, .ref q0), (1, .int x1), (2, .int x2)]) eX6_numberOf_34 rfl (by decide) rfl ?_
  refine q_iload_n 0 eX6_numberOf_35 rfl rfl ?_
  refine q_if_eq (tgt := 53) eX6_numberOf_36 (by decide) (fun _ => ?_) (fun _ => ?_)
  · refine q_iconst eX6_numberOf_53 kiconst_0 ?_
    exact q_ireturn eX6_numberOf_54 rfl
  · refine q_aload_n 1 eX6_numberOf_39 rfl rfl ?_
    refine q_getG (v := (fC q0 1)) eX6_numberOf_40 fl_6_15 h0 rfl rfl ?_
    refine q_iload_n 2 eX6_numberOf_43 rfl rfl ?_
    refine q_bipush eX6_numberOf_44 kbipush_6 ?_
    refine q_imul eX6_numberOf_46 ?_
    refine q_iload_n 3 eX6_numberOf_47 rfl rfl ?_
    refine q_iadd eX6_numberOf_48 ?_
    refine q_ltI (fun y1 => ?_)
    refine q_iald eX6_numberOf_49 (fxC_6_1 q0 h0) (flC_6_1 q0 h0) ?_
    refine q_goto (tgt := 54) eX6_numberOf_50 (by decide) ?_
    exact q_ireturn eX6_numberOf_54 rfl
def fX6_numberOf_n33 (q0 : Nat) (x1 : Int32) (x2 : Int32) (w : q_W) : Option (Int32 × q_W) :=
  fX6_numberOf_n34 q0 x1 x2 0 w
set_option maxHeartbeats 4000000 in
set_option maxRecDepth 100000 in
theorem jX6_numberOf_n33 (X : q_X) (l : Launch) (q0 : Nat) (h0 : cC q0 = 6) (x1 : Int32) (x2 : Int32) (w : q_W) : q_J X S_C l mX6_numberOf 0 q_tI 33 [(0, .ref q0), (1, .int x1), (2, .int x2)] [] w (fX6_numberOf_n33 q0 x1 x2 w) := by
  refine q_iconst eX6_numberOf_33 kiconst_0 ?_
  exact q_sub [0, 1, 2] rfl (jX6_numberOf_n34 X l q0 h0 x1 x2 0 w)
def fX6_numberOf (q0 : Nat) (a1 : Int32) (a2 : Int32) (w : q_W) : Option (Int32 × q_W) :=
  if cC q0 = 6 then
  if a1 < 0 then
    fX6_numberOf_n33 q0 a1 a2 w
  else
    if (w.1 q0 2) ≤ a1 then
      fX6_numberOf_n33 q0 a1 a2 w
    else
      if 480 ≤ a1 then
        fX6_numberOf_n33 q0 a1 a2 w
      else
        if a2 < 0 then
          fX6_numberOf_n33 q0 a1 a2 w
        else
          if 6 ≤ a2 then
            fX6_numberOf_n33 q0 a1 a2 w
          else
            fX6_numberOf_n34 q0 a1 a2 1 w
  else none
set_option maxHeartbeats 4000000 in
set_option maxRecDepth 100000 in
theorem kX6_numberOf (X : q_X) (l : Launch) (q0 : Nat) (a1 : Int32) (a2 : Int32) (w : q_W) : q_Ct X S_C l mX6_numberOf 0 q_tI [.ref q0, .int a1, .int a2] w (fX6_numberOf q0 a1 a2 w) := by
  refine q_intro (lv := [(0, .ref q0), (1, .int a1), (2, .int a2)]) (by decide +kernel) rfl (Nat.le_of_ble_eq_true rfl) rfl ?_
  refine q_ck (fun h0 => ?_)
  refine q_iload_n 1 eX6_numberOf_0 rfl rfl ?_
  refine q_if_lt (tgt := 33) eX6_numberOf_1 (by decide) (fun _ => ?_) (fun _ => ?_)
  · exact q_sub [0, 1, 2] rfl (jX6_numberOf_n33 X l q0 h0 a1 a2 w)
  · refine q_iload_n 1 eX6_numberOf_4 rfl rfl ?_
    refine q_aload_n 0 eX6_numberOf_5 rfl rfl ?_
    refine q_getI eX6_numberOf_6 fl_6_22 h0 rfl ?_
    refine q_icmp_ge (tgt := 33) eX6_numberOf_9 (by decide) (fun _ => ?_) (fun _ => ?_)
    · exact q_sub [0, 1, 2] rfl (jX6_numberOf_n33 X l q0 h0 a1 a2 w)
    · refine q_iload_n 1 eX6_numberOf_12 rfl rfl ?_
      refine q_sipush eX6_numberOf_13 ksipush_480 ?_
      refine q_icmp_ge (tgt := 33) eX6_numberOf_16 (by decide) (fun _ => ?_) (fun _ => ?_)
      · exact q_sub [0, 1, 2] rfl (jX6_numberOf_n33 X l q0 h0 a1 a2 w)
      · refine q_iload_n 2 eX6_numberOf_19 rfl rfl ?_
        refine q_if_lt (tgt := 33) eX6_numberOf_20 (by decide) (fun _ => ?_) (fun _ => ?_)
        · exact q_sub [0, 1, 2] rfl (jX6_numberOf_n33 X l q0 h0 a1 a2 w)
        · refine q_iload_n 2 eX6_numberOf_23 rfl rfl ?_
          refine q_bipush eX6_numberOf_24 kbipush_6 ?_
          refine q_icmp_ge (tgt := 33) eX6_numberOf_26 (by decide) (fun _ => ?_) (fun _ => ?_)
          · exact q_sub [0, 1, 2] rfl (jX6_numberOf_n33 X l q0 h0 a1 a2 w)
          · refine q_iconst eX6_numberOf_29 kiconst_1 ?_
            refine q_goto (tgt := 34) eX6_numberOf_30 (by decide) ?_
            exact q_sub [0, 1, 2] rfl (jX6_numberOf_n34 X l q0 h0 a1 a2 1 w)
def fX0_dragOf_h99 (rec99 : Int32 → Int32 → Int32 → Int32 → Int32 → q_W → Option (Int32 × q_W)) (x1 : Int32) (x2 : Int32) (x3 : Int32) (x4 : Int32) (x5 : Int32) (w : q_W) : Option (Int32 × q_W) :=
  if cC (w.2.1 12 1) = 6 then
  q_b (fX6_numberOf (w.2.1 12 1) x1 3 w) fun r2 w3 =>
  if r2 ≤ x5 then
    some (x4, w3)
  else
    if cC (w3.2.1 12 1) = 6 then
    q_b (fX6_numberOf (w3.2.1 12 1) x1 2 w3) fun r5 w6 =>
    q_lt ((x2 - x3) - (x5 * r5)) fun y7 =>
    if cC (w6.2.1 12 1) = 6 then
    q_b (fX6_numberOf (w6.2.1 12 1) x1 4 w6) fun r9 w10 =>
    if cC (w10.2.1 12 1) = 6 then
    q_b (fX6_numberOf (w10.2.1 12 1) x1 5 w10) fun r12 w13 =>
    q_b (fX0_toothDrag y7 r9 r12 w13) fun r14 w15 =>
    q_lt (x4 + r14) fun y16 =>
    q_lt (x5 + 1) fun y17 =>
    rec99 x1 x2 x3 y16 y17 w15
    else none
    else none
    else none
  else none
def fX0_dragOf_l99 : Int32 → Int32 → Int32 → Int32 → Int32 → q_W → Option (Int32 × q_W) := q_it q_N (fX0_dragOf_h99) (fun _ _ _ _ _ _ => none)
set_option maxHeartbeats 4000000 in
set_option maxRecDepth 100000 in
theorem jX0_dragOf_h99 (X : q_X) (l : Launch) (rec99 : Int32 → Int32 → Int32 → Int32 → Int32 → q_W → Option (Int32 × q_W)) (hr99 : ∀ x1 x2 x3 x4 x5 w, q_J X S_C l mX0_dragOf 1 q_tI 99 [(0, .ref 12), (1, .int x1), (2, .int x2), (3, .int x3), (4, .int x4), (5, .int x5)] [] w (rec99 x1 x2 x3 x4 x5 w)) : ∀ x1 x2 x3 x4 x5 w, q_J X S_C l mX0_dragOf 1 q_tI 99 [(0, .ref 12), (1, .int x1), (2, .int x2), (3, .int x3), (4, .int x4), (5, .int x5)] [] w (fX0_dragOf_h99 rec99 x1 x2 x3 x4 x5 w) := by
  intro x1 x2 x3 x4 x5 w
  refine q_iload 5 eX0_dragOf_99 rfl ?_
  refine q_aload_n 0 eX0_dragOf_101 rfl rfl ?_
  refine q_getR eX0_dragOf_102 fl_0_15 tC_12 rfl ?_
  refine q_ck (fun g1 => ?_)
  refine q_iload_n 1 eX0_dragOf_105 rfl rfl ?_
  refine q_iconst eX0_dragOf_106 kiconst_3 ?_
  refine q_callVI (As := [.int x1, .int 3]) (st := [.int x5]) eX0_dragOf_107 cv_0_41 (kX6_numberOf X l (w.2.1 12 1) x1 3 w) g1 rfl (by decide) rfl rfl (Nat.le_of_ble_eq_true rfl) (by decide) (fun r2 w3 => ?_)
  refine q_icmp_ge (tgt := 165) eX0_dragOf_110 (by decide) (fun _ => ?_) (fun _ => ?_)
  · refine q_iload 4 eX0_dragOf_165 rfl ?_
    exact q_ireturn eX0_dragOf_167 rfl
  · refine q_iload_n 2 eX0_dragOf_113 rfl rfl ?_
    refine q_iload_n 3 eX0_dragOf_114 rfl rfl ?_
    refine q_isub eX0_dragOf_115 ?_
    refine q_iload 5 eX0_dragOf_116 rfl ?_
    refine q_aload_n 0 eX0_dragOf_118 rfl rfl ?_
    refine q_getR eX0_dragOf_119 fl_0_15 tC_12 rfl ?_
    refine q_ck (fun g4 => ?_)
    refine q_iload_n 1 eX0_dragOf_122 rfl rfl ?_
    refine q_iconst eX0_dragOf_123 kiconst_2 ?_
    refine q_callVI (As := [.int x1, .int 2]) (st := [.int x5, .int (x2 - x3)]) eX0_dragOf_124 cv_0_41 (kX6_numberOf X l (w3.2.1 12 1) x1 2 w3) g4 rfl (by decide) rfl rfl (Nat.le_of_ble_eq_true rfl) (by decide) (fun r5 w6 => ?_)
    refine q_imul eX0_dragOf_127 ?_
    refine q_isub eX0_dragOf_128 ?_
    refine q_ltI (fun y7 => ?_)
    refine q_istore (lv' := [(6, .int y7), (0, .ref 12), (1, .int x1), (2, .int x2), (3, .int x3), (4, .int x4), (5, .int x5)]) eX0_dragOf_129 (by decide) rfl ?_
    refine q_iload 5 eX0_dragOf_131 rfl ?_
    refine q_iload 0 eX0_dragOf_133 rfl ?_
    refine q_aload_n 1 eX0_dragOf_135 rfl rfl ?_
    refine q_getR eX0_dragOf_136 fl_0_15 tC_12 rfl ?_
    refine q_ck (fun g8 => ?_)
    refine q_iload_n 2 eX0_dragOf_139 rfl rfl ?_
    refine q_iconst eX0_dragOf_140 kiconst_4 ?_
    refine q_callVI (As := [.int x1, .int 4]) (st := [.int y7, .int x4]) eX0_dragOf_141 cv_0_41 (kX6_numberOf X l (w6.2.1 12 1) x1 4 w6) g8 rfl (by decide) rfl rfl (Nat.le_of_ble_eq_true rfl) (by decide) (fun r9 w10 => ?_)
    refine q_aload_n 1 eX0_dragOf_144 rfl rfl ?_
    refine q_getR eX0_dragOf_145 fl_0_15 tC_12 rfl ?_
    refine q_ck (fun g11 => ?_)
    refine q_iload_n 2 eX0_dragOf_148 rfl rfl ?_
    refine q_iconst eX0_dragOf_149 kiconst_5 ?_
    refine q_callVI (As := [.int x1, .int 5]) (st := [.int r9, .int y7, .int x4]) eX0_dragOf_150 cv_0_41 (kX6_numberOf X l (w10.2.1 12 1) x1 5 w10) g11 rfl (by decide) rfl rfl (Nat.le_of_ble_eq_true rfl) (by decide) (fun r12 w13 => ?_)
    refine q_callSI (As := [.int y7, .int r9, .int r12]) (st := [.int x4]) eX0_dragOf_153 cv_0_82 (kX0_toothDrag X l y7 r9 r12 w13) rfl rfl (Nat.le_of_ble_eq_true rfl) (by decide) (fun r14 w15 => ?_)
    refine q_iadd eX0_dragOf_156 ?_
    refine q_ltI (fun y16 => ?_)
    refine q_istore (lv' := [(4, .int y16), (6, .int y7), (0, .ref 12), (1, .int x1), (2, .int x2), (3, .int x3), (5, .int x5)]) eX0_dragOf_157 (by decide) rfl ?_
    refine q_ltE (fun y17 hy17 => ?_)
    refine q_iinc (v := y17) (lv' := [(5, .int y17), (4, .int y16), (6, .int y7), (0, .ref 12), (1, .int x1), (2, .int x2), (3, .int x3)]) 6 eX0_dragOf_159 rfl hy17 (by decide) rfl ?_
    refine q_goto (tgt := 99) eX0_dragOf_162 (by decide) ?_
    exact q_sub [3, 4, 5, 6, 1, 0] rfl (hr99 x1 x2 x3 y16 y17 w15)
set_option maxHeartbeats 4000000 in
set_option maxRecDepth 100000 in
theorem jX0_dragOf_l99 (X : q_X) (l : Launch) : ∀ x1 x2 x3 x4 x5 w, q_J X S_C l mX0_dragOf 1 q_tI 99 [(0, .ref 12), (1, .int x1), (2, .int x2), (3, .int x3), (4, .int x4), (5, .int x5)] [] w (fX0_dragOf_l99 x1 x2 x3 x4 x5 w) := by
  exact q_it_ind (fun rc => ∀ x1 x2 x3 x4 x5 w, q_J X S_C l mX0_dragOf 1 q_tI 99 [(0, .ref 12), (1, .int x1), (2, .int x2), (3, .int x3), (4, .int x4), (5, .int x5)] [] w (rc x1 x2 x3 x4 x5 w)) _ _ (fun _ _ _ _ _ _ => q_none) (fun rc hrc => jX0_dragOf_h99 X l rc hrc) q_N
def fX0_dragOf_n23 (x1 : Int32) (s0 : Int32) (w : q_W) : Option (Int32 × q_W) :=
  if cC (w.2.1 12 1) = 6 then
  q_b (fX6_numberOf (w.2.1 12 1) x1 1 w) fun r2 w3 =>
  if cC (w3.2.1 12 1) = 6 then
  q_b (fX6_kindOf (w3.2.1 12 1) x1 w3) fun r5 w6 =>
  if r5 = 1 then
    if cC (w6.2.1 12 1) = 6 then
    q_b (fX6_numberOf (w6.2.1 12 1) x1 2 w6) fun r9 w10 =>
    if cC (w10.2.1 12 1) = 6 then
    q_b (fX6_numberOf (w10.2.1 12 1) x1 3 w10) fun r12 w13 =>
    q_b (fX0_toothDrag (s0 - r2) r9 r12 w13) fun r14 w15 =>
    some (r14, w15)
    else none
    else none
  else if r5 = 2 then
    fX0_dragOf_l99 x1 s0 r2 0 0 w6
  else if r5 = 3 then
    if cC (w6.2.1 12 1) = 6 then
    q_b (fX6_numberOf (w6.2.1 12 1) x1 2 w6) fun r19 w20 =>
    q_b (fX0_waveDrag s0 r2 r19 w20) fun r21 w22 =>
    some (r21, w22)
    else none
  else some (0, w6)
  else none
  else none
set_option maxHeartbeats 4000000 in
set_option maxRecDepth 100000 in
theorem jX0_dragOf_n23 (X : q_X) (l : Launch) (x1 : Int32) (s0 : Int32) (w : q_W) : q_J X S_C l mX0_dragOf 1 q_tI 23 [(0, .ref 12), (1, .int x1)] [.int s0] w (fX0_dragOf_n23 x1 s0 w) := by
  refine q_istore_n (lv' := [(2, .int s0), (0, .ref 12), (1, .int x1)]) eX0_dragOf_23 rfl (by decide) rfl ?_
  refine q_aload_n 1 eX0_dragOf_24 rfl rfl ?_
  refine q_getR eX0_dragOf_25 fl_0_15 tC_12 rfl ?_
  refine q_ck (fun g1 => ?_)
  refine q_iload_n 2 eX0_dragOf_28 rfl rfl ?_
  refine q_iconst eX0_dragOf_29 kiconst_1 ?_
  refine q_callVI (As := [.int x1, .int 1]) (st := []) eX0_dragOf_30 cv_0_41 (kX6_numberOf X l (w.2.1 12 1) x1 1 w) g1 rfl (by decide) rfl rfl (Nat.le_of_ble_eq_true rfl) (by decide) (fun r2 w3 => ?_)
  refine q_istore_n (lv' := [(3, .int r2), (2, .int s0), (0, .ref 12), (1, .int x1)]) eX0_dragOf_33 rfl (by decide) rfl ?_
  refine q_aload_n 2 eX0_dragOf_34 rfl rfl ?_
  refine q_getR eX0_dragOf_35 fl_0_15 tC_12 rfl ?_
  refine q_ck (fun g4 => ?_)
  refine q_iload_n 3 eX0_dragOf_38 rfl rfl ?_
  refine q_callVI (As := [.int x1]) (st := []) eX0_dragOf_39 cv_0_50 (kX6_kindOf X l (w3.2.1 12 1) x1 w3) g4 rfl (by decide) rfl rfl (Nat.le_of_ble_eq_true rfl) (by decide) (fun r5 w6 => ?_)
  refine q_ite (fun c7 => ?_) (fun c7 => ?_)
  · refine q_tabIn (off := 26) (tgt := 68) eX0_dragOf_42 (by rw [c7]; decide) (by rw [c7]; decide) (by rw [c7]; rfl) (by decide) ?_
    refine q_iload_n 1 eX0_dragOf_68 rfl rfl ?_
    refine q_iload_n 0 eX0_dragOf_69 rfl rfl ?_
    refine q_isub eX0_dragOf_70 ?_
    refine q_aload_n 2 eX0_dragOf_71 rfl rfl ?_
    refine q_getR eX0_dragOf_72 fl_0_15 tC_12 rfl ?_
    refine q_ck (fun g8 => ?_)
    refine q_iload_n 3 eX0_dragOf_75 rfl rfl ?_
    refine q_iconst eX0_dragOf_76 kiconst_2 ?_
    refine q_callVI (As := [.int x1, .int 2]) (st := [.int (s0 - r2)]) eX0_dragOf_77 cv_0_41 (kX6_numberOf X l (w6.2.1 12 1) x1 2 w6) g8 rfl (by decide) rfl rfl (Nat.le_of_ble_eq_true rfl) (by decide) (fun r9 w10 => ?_)
    refine q_aload_n 2 eX0_dragOf_80 rfl rfl ?_
    refine q_getR eX0_dragOf_81 fl_0_15 tC_12 rfl ?_
    refine q_ck (fun g11 => ?_)
    refine q_iload_n 3 eX0_dragOf_84 rfl rfl ?_
    refine q_iconst eX0_dragOf_85 kiconst_3 ?_
    refine q_callVI (As := [.int x1, .int 3]) (st := [.int r9, .int (s0 - r2)]) eX0_dragOf_86 cv_0_41 (kX6_numberOf X l (w10.2.1 12 1) x1 3 w10) g11 rfl (by decide) rfl rfl (Nat.le_of_ble_eq_true rfl) (by decide) (fun r12 w13 => ?_)
    refine q_callSI (As := [.int (s0 - r2), .int r9, .int r12]) (st := []) eX0_dragOf_89 cv_0_82 (kX0_toothDrag X l (s0 - r2) r9 r12 w13) rfl rfl (Nat.le_of_ble_eq_true rfl) (by decide) (fun r14 w15 => ?_)
    exact q_ireturn eX0_dragOf_92 rfl
  refine q_ite (fun c16 => ?_) (fun c16 => ?_)
  · refine q_tabIn (off := 51) (tgt := 93) eX0_dragOf_42 (by rw [c16]; decide) (by rw [c16]; decide) (by rw [c16]; rfl) (by decide) ?_
    refine q_iconst eX0_dragOf_93 kiconst_0 ?_
    refine q_istore (lv' := [(4, .int 0), (3, .int r2), (2, .int s0), (0, .ref 12), (1, .int x1)]) eX0_dragOf_94 (by decide) rfl ?_
    refine q_iconst eX0_dragOf_96 kiconst_0 ?_
    refine q_istore (lv' := [(5, .int 0), (4, .int 0), (3, .int r2), (2, .int s0), (0, .ref 12), (1, .int x1)]) eX0_dragOf_97 (by decide) rfl ?_
    exact q_sub [4, 5, 3, 2, 1, 0] rfl (jX0_dragOf_l99 X l x1 s0 r2 0 0 w6)
  refine q_ite (fun c17 => ?_) (fun c17 => ?_)
  · refine q_tabIn (off := 126) (tgt := 168) eX0_dragOf_42 (by rw [c17]; decide) (by rw [c17]; decide) (by rw [c17]; rfl) (by decide) ?_
    refine q_iload_n 1 eX0_dragOf_168 rfl rfl ?_
    refine q_iload_n 0 eX0_dragOf_169 rfl rfl ?_
    refine q_aload_n 2 eX0_dragOf_170 rfl rfl ?_
    refine q_getR eX0_dragOf_171 fl_0_15 tC_12 rfl ?_
    refine q_ck (fun g18 => ?_)
    refine q_iload_n 3 eX0_dragOf_174 rfl rfl ?_
    refine q_iconst eX0_dragOf_175 kiconst_2 ?_
    refine q_callVI (As := [.int x1, .int 2]) (st := [.int r2, .int s0]) eX0_dragOf_176 cv_0_41 (kX6_numberOf X l (w6.2.1 12 1) x1 2 w6) g18 rfl (by decide) rfl rfl (Nat.le_of_ble_eq_true rfl) (by decide) (fun r19 w20 => ?_)
    refine q_callSI (As := [.int s0, .int r2, .int r19]) (st := []) eX0_dragOf_179 cv_0_86 (kX0_waveDrag X l s0 r2 r19 w20) rfl rfl (Nat.le_of_ble_eq_true rfl) (by decide) (fun r21 w22 => ?_)
    exact q_ireturn eX0_dragOf_182 rfl
  refine q_tabOut (tgt := 183) eX0_dragOf_42 (by have zc7 := lv_neT (a := 1) c7 rfl; have zc16 := lv_neT (a := 2) c16 rfl; have zc17 := lv_neT (a := 3) c17 rfl; omega) (by decide) ?_
  refine q_iconst eX0_dragOf_183 kiconst_0 ?_
  exact q_ireturn eX0_dragOf_184 rfl
def fX0_dragOf (a1 : Int32) (w : q_W) : Option (Int32 × q_W) :=
  if cC (w.2.1 12 1) = 6 then
  q_b (fX6_numberOf (w.2.1 12 1) a1 0 w) fun r2 w3 =>
  if r2 = 0 then
    fX0_dragOf_n23 a1 (w3.1 12 5) w3
  else
    fX0_dragOf_n23 a1 (w3.1 12 4) w3
  else none
set_option maxHeartbeats 4000000 in
set_option maxRecDepth 100000 in
theorem kX0_dragOf (X : q_X) (l : Launch) (a1 : Int32) (w : q_W) : q_Ct X S_C l mX0_dragOf 1 q_tI [.ref 12, .int a1] w (fX0_dragOf a1 w) := by
  refine q_intro (lv := [(0, .ref 12), (1, .int a1)]) (by decide +kernel) rfl (Nat.le_of_ble_eq_true rfl) rfl ?_
  refine q_aload_n 0 eX0_dragOf_0 rfl rfl ?_
  refine q_getR eX0_dragOf_1 fl_0_15 tC_12 rfl ?_
  refine q_ck (fun g1 => ?_)
  refine q_iload_n 1 eX0_dragOf_4 rfl rfl ?_
  refine q_iconst eX0_dragOf_5 kiconst_0 ?_
  refine q_callVI (As := [.int a1, .int 0]) (st := []) eX0_dragOf_6 cv_0_41 (kX6_numberOf X l (w.2.1 12 1) a1 0 w) g1 rfl (by decide) rfl rfl (Nat.le_of_ble_eq_true rfl) (by decide) (fun r2 w3 => ?_)
  refine q_if_ne (tgt := 19) eX0_dragOf_9 (by decide) (fun _ => ?_) (fun _ => ?_)
  · refine q_aload_n 0 eX0_dragOf_12 rfl rfl ?_
    refine q_getI eX0_dragOf_13 fl_0_35 tC_12 rfl ?_
    refine q_goto (tgt := 23) eX0_dragOf_16 (by decide) ?_
    exact q_sub [0, 1] rfl (jX0_dragOf_n23 X l a1 (w3.1 12 5) w3)
  · refine q_aload_n 0 eX0_dragOf_19 rfl rfl ?_
    refine q_getI eX0_dragOf_20 fl_0_32 tC_12 rfl ?_
    exact q_sub [0, 1] rfl (jX0_dragOf_n23 X l a1 (w3.1 12 4) w3)
def fX0_root_h14 (rec14 : Int32 → Int32 → Int32 → q_W → Option (Int32 × q_W)) (x0 : Int32) (x1 : Int32) (x2 : Int32) (w : q_W) : Option (Int32 × q_W) :=
  if 40 ≤ x2 then
    some (x1, w)
  else
    if x1 ≤ 0 then
      some (x1, w)
    else
      if x1 = 0 then none else
      q_lt ((x1 + (x0 / x1)) / 2) fun y1 =>
      if y1 < x1 then
        q_lt (x2 + 1) fun y2 =>
        rec14 x0 y1 y2 w
      else
        some (x1, w)
def fX0_root_l14 : Int32 → Int32 → Int32 → q_W → Option (Int32 × q_W) := q_it q_N (fX0_root_h14) (fun _ _ _ _ => none)
set_option maxHeartbeats 4000000 in
set_option maxRecDepth 100000 in
theorem jX0_root_h14 (X : q_X) (l : Launch) (rec14 : Int32 → Int32 → Int32 → q_W → Option (Int32 × q_W)) (hr14 : ∀ x0 x1 x2 w, q_J X S_C l mX0_root 0 q_tI 14 [(0, .int x0), (1, .int x1), (2, .int x2)] [] w (rec14 x0 x1 x2 w)) : ∀ x0 x1 x2 w, q_J X S_C l mX0_root 0 q_tI 14 [(0, .int x0), (1, .int x1), (2, .int x2)] [] w (fX0_root_h14 rec14 x0 x1 x2 w) := by
  intro x0 x1 x2 w
  refine q_iload_n 2 eX0_root_14 rfl rfl ?_
  refine q_bipush eX0_root_15 kbipush_40 ?_
  refine q_icmp_ge (tgt := 48) eX0_root_17 (by decide) (fun _ => ?_) (fun _ => ?_)
  · refine q_iload_n 1 eX0_root_48 rfl rfl ?_
    exact q_ireturn eX0_root_49 rfl
  · refine q_iload_n 1 eX0_root_20 rfl rfl ?_
    refine q_if_le (tgt := 48) eX0_root_21 (by decide) (fun _ => ?_) (fun _ => ?_)
    · refine q_iload_n 1 eX0_root_48 rfl rfl ?_
      exact q_ireturn eX0_root_49 rfl
    · refine q_iload_n 1 eX0_root_24 rfl rfl ?_
      refine q_iload_n 0 eX0_root_25 rfl rfl ?_
      refine q_iload_n 1 eX0_root_26 rfl rfl ?_
      refine q_idiv eX0_root_27 ?_
      refine q_iadd eX0_root_28 ?_
      refine q_iconst eX0_root_29 kiconst_2 ?_
      refine q_idivc eX0_root_30 (by decide) ?_
      refine q_ltI (fun y1 => ?_)
      refine q_istore_n (lv' := [(3, .int y1), (0, .int x0), (1, .int x1), (2, .int x2)]) eX0_root_31 rfl (by decide) rfl ?_
      refine q_iload_n 0 eX0_root_32 rfl rfl ?_
      refine q_iload_n 2 eX0_root_33 rfl rfl ?_
      refine q_icmp_lt (tgt := 40) eX0_root_34 (by decide) (fun _ => ?_) (fun _ => ?_)
      · refine q_iload_n 0 eX0_root_40 rfl rfl ?_
        refine q_istore_n (lv' := [(1, .int y1), (3, .int y1), (0, .int x0), (2, .int x2)]) eX0_root_41 rfl (by decide) rfl ?_
        refine q_ltE (fun y2 hy2 => ?_)
        refine q_iinc (v := y2) (lv' := [(2, .int y2), (1, .int y1), (3, .int y1), (0, .int x0)]) 3 eX0_root_42 rfl hy2 (by decide) rfl ?_
        refine q_goto (tgt := 14) eX0_root_45 (by decide) ?_
        exact q_sub [3, 1, 0] rfl (hr14 x0 y1 y2 w)
      · refine q_goto (tgt := 48) eX0_root_37 (by decide) ?_
        refine q_iload_n 2 eX0_root_48 rfl rfl ?_
        exact q_ireturn eX0_root_49 rfl
set_option maxHeartbeats 4000000 in
set_option maxRecDepth 100000 in
theorem jX0_root_l14 (X : q_X) (l : Launch) : ∀ x0 x1 x2 w, q_J X S_C l mX0_root 0 q_tI 14 [(0, .int x0), (1, .int x1), (2, .int x2)] [] w (fX0_root_l14 x0 x1 x2 w) := by
  exact q_it_ind (fun rc => ∀ x0 x1 x2 w, q_J X S_C l mX0_root 0 q_tI 14 [(0, .int x0), (1, .int x1), (2, .int x2)] [] w (rc x0 x1 x2 w)) _ _ (fun _ _ _ _ => q_none) (fun rc hrc => jX0_root_h14 X l rc hrc) q_N
def fX0_root_n11 (x0 : Int32) (s0 : Int32) (w : q_W) : Option (Int32 × q_W) :=
  fX0_root_l14 x0 s0 0 w
set_option maxHeartbeats 4000000 in
set_option maxRecDepth 100000 in
theorem jX0_root_n11 (X : q_X) (l : Launch) (x0 : Int32) (s0 : Int32) (w : q_W) : q_J X S_C l mX0_root 0 q_tI 11 [(0, .int x0)] [.int s0] w (fX0_root_n11 x0 s0 w) := by
  refine q_istore_n (lv' := [(1, .int s0), (0, .int x0)]) eX0_root_11 rfl (by decide) rfl ?_
  refine q_iconst eX0_root_12 kiconst_0 ?_
  refine q_istore_n (lv' := [(2, .int 0), (1, .int s0), (0, .int x0)]) eX0_root_13 rfl (by decide) rfl ?_
  exact q_sub [2, 1, 0] rfl (jX0_root_l14 X l x0 s0 0 w)
def fX0_root (a0 : Int32) (w : q_W) : Option (Int32 × q_W) :=
  if a0 ≤ 0 then
    fX0_root_n11 a0 0 w
  else
    fX0_root_n11 a0 2048 w
set_option maxHeartbeats 4000000 in
set_option maxRecDepth 100000 in
theorem kX0_root (X : q_X) (l : Launch) (a0 : Int32) (w : q_W) : q_Ct X S_C l mX0_root 0 q_tI [.int a0] w (fX0_root a0 w) := by
  refine q_intro (lv := [(0, .int a0)]) (by decide +kernel) rfl (Nat.le_of_ble_eq_true rfl) rfl ?_
  refine q_iload_n 0 eX0_root_0 rfl rfl ?_
  refine q_if_le (tgt := 10) eX0_root_1 (by decide) (fun _ => ?_) (fun _ => ?_)
  · refine q_iconst eX0_root_10 kiconst_0 ?_
    exact q_sub [0] rfl (jX0_root_n11 X l a0 0 w)
  · refine q_sipush eX0_root_4 ksipush_2048 ?_
    refine q_goto (tgt := 11) eX0_root_7 (by decide) ?_
    exact q_sub [0] rfl (jX0_root_n11 X l a0 2048 w)
def fX0_squareOf (a0 : Int32) (a1 : Int32) (w : q_W) : Option (Int32 × q_W) :=
  some (((a0 * a0) + (a1 * a1)), w)
set_option maxHeartbeats 4000000 in
set_option maxRecDepth 100000 in
theorem kX0_squareOf (X : q_X) (l : Launch) (a0 : Int32) (a1 : Int32) (w : q_W) : q_Ct X S_C l mX0_squareOf 0 q_tI [.int a0, .int a1] w (fX0_squareOf a0 a1 w) := by
  refine q_intro (lv := [(0, .int a0), (1, .int a1)]) (by decide +kernel) rfl (Nat.le_of_ble_eq_true rfl) rfl ?_
  refine q_iload_n 0 eX0_squareOf_0 rfl rfl ?_
  refine q_iload_n 0 eX0_squareOf_1 rfl rfl ?_
  refine q_imul eX0_squareOf_2 ?_
  refine q_iload_n 1 eX0_squareOf_3 rfl rfl ?_
  refine q_iload_n 1 eX0_squareOf_4 rfl rfl ?_
  refine q_imul eX0_squareOf_5 ?_
  refine q_iadd eX0_squareOf_6 ?_
  exact q_ireturn eX0_squareOf_7 rfl
def fX0_stretchFrom (a1 : Int32) (a2 : Int32) (a3 : Int32) (a4 : Int32) (w : q_W) : Option (Unit × q_W) :=
  if a4 = 0 then
    some ((), w)
  else
    if a4 = 0 then none else
    q_lt (q_sI w 12 4 (a1 + ((((w.1 12 4) - a1) * a3) / a4))) fun w1 =>
    if a4 = 0 then none else
    q_lt (q_sI w1 12 5 (a2 + ((((w1.1 12 5) - a2) * a3) / a4))) fun w2 =>
    some ((), w2)
set_option maxHeartbeats 4000000 in
set_option maxRecDepth 100000 in
theorem kX0_stretchFrom (X : q_X) (l : Launch) (a1 : Int32) (a2 : Int32) (a3 : Int32) (a4 : Int32) (w : q_W) : q_Ct X S_C l mX0_stretchFrom 0 q_tV [.ref 12, .int a1, .int a2, .int a3, .int a4] w (fX0_stretchFrom a1 a2 a3 a4 w) := by
  refine q_intro (lv := [(0, .ref 12), (1, .int a1), (2, .int a2), (3, .int a3), (4, .int a4)]) (by decide +kernel) rfl (Nat.le_of_ble_eq_true rfl) rfl ?_
  refine q_iload 4 eX0_stretchFrom_0 rfl ?_
  refine q_if_eq (tgt := 39) eX0_stretchFrom_2 (by decide) (fun _ => ?_) (fun _ => ?_)
  · exact q_return eX0_stretchFrom_39 rfl
  · refine q_aload_n 0 eX0_stretchFrom_5 rfl rfl ?_
    refine q_iload_n 1 eX0_stretchFrom_6 rfl rfl ?_
    refine q_aload_n 0 eX0_stretchFrom_7 rfl rfl ?_
    refine q_getI eX0_stretchFrom_8 fl_0_32 tC_12 rfl ?_
    refine q_iload_n 1 eX0_stretchFrom_11 rfl rfl ?_
    refine q_isub eX0_stretchFrom_12 ?_
    refine q_iload_n 3 eX0_stretchFrom_13 rfl rfl ?_
    refine q_imul eX0_stretchFrom_14 ?_
    refine q_iload 4 eX0_stretchFrom_15 rfl ?_
    refine q_idiv eX0_stretchFrom_17 ?_
    refine q_iadd eX0_stretchFrom_18 ?_
    refine q_putI eX0_stretchFrom_19 fp_0_32 tC_12 rfl ⟨rfl, rfl⟩ ?_
    refine q_ltW (fun w1 => ?_)
    refine q_aload_n 0 eX0_stretchFrom_22 rfl rfl ?_
    refine q_iload_n 2 eX0_stretchFrom_23 rfl rfl ?_
    refine q_aload_n 0 eX0_stretchFrom_24 rfl rfl ?_
    refine q_getI eX0_stretchFrom_25 fl_0_35 tC_12 rfl ?_
    refine q_iload_n 2 eX0_stretchFrom_28 rfl rfl ?_
    refine q_isub eX0_stretchFrom_29 ?_
    refine q_iload_n 3 eX0_stretchFrom_30 rfl rfl ?_
    refine q_imul eX0_stretchFrom_31 ?_
    refine q_iload 4 eX0_stretchFrom_32 rfl ?_
    refine q_idiv eX0_stretchFrom_34 ?_
    refine q_iadd eX0_stretchFrom_35 ?_
    refine q_putI eX0_stretchFrom_36 fp_0_35 tC_12 rfl ⟨rfl, rfl⟩ ?_
    refine q_ltW (fun w2 => ?_)
    exact q_return eX0_stretchFrom_39 rfl
def fX0_tired (a1 : Int32) (w : q_W) : Option (Int32 × q_W) :=
  q_lt ((a1 * (10 - (w.1 12 3))) / 10) fun y1 =>
  if 1 ≤ y1 then
    some (y1, w)
  else
    some (1, w)
set_option maxHeartbeats 4000000 in
set_option maxRecDepth 100000 in
theorem kX0_tired (X : q_X) (l : Launch) (a1 : Int32) (w : q_W) : q_Ct X S_C l mX0_tired 0 q_tI [.ref 12, .int a1] w (fX0_tired a1 w) := by
  refine q_intro (lv := [(0, .ref 12), (1, .int a1)]) (by decide +kernel) rfl (Nat.le_of_ble_eq_true rfl) rfl ?_
  refine q_iload_n 1 eX0_tired_0 rfl rfl ?_
  refine q_bipush eX0_tired_1 kbipush_10 ?_
  refine q_aload_n 0 eX0_tired_3 rfl rfl ?_
  refine q_getI eX0_tired_4 fl_0_29 tC_12 rfl ?_
  refine q_isub eX0_tired_7 ?_
  refine q_imul eX0_tired_8 ?_
  refine q_bipush eX0_tired_9 kbipush_10 ?_
  refine q_idivc eX0_tired_11 (by decide) ?_
  refine q_ltI (fun y1 => ?_)
  refine q_istore_n (lv' := [(2, .int y1), (0, .ref 12), (1, .int a1)]) eX0_tired_12 rfl (by decide) rfl ?_
  refine q_iload_n 0 eX0_tired_13 rfl rfl ?_
  refine q_iconst eX0_tired_14 kiconst_1 ?_
  refine q_icmp_ge (tgt := 22) eX0_tired_15 (by decide) (fun _ => ?_) (fun _ => ?_)
  · refine q_iload_n 0 eX0_tired_22 rfl rfl ?_
    exact q_ireturn eX0_tired_23 rfl
  · refine q_iconst eX0_tired_18 kiconst_1 ?_
    refine q_goto (tgt := 23) eX0_tired_19 (by decide) ?_
    exact q_ireturn eX0_tired_23 rfl
def fX0_leaveDrop (a1 : Int32) (w : q_W) : Option (Int32 × q_W) :=
  if cC (w.2.1 12 1) = 6 then
  q_b (fX6_numberOf (w.2.1 12 1) a1 0 w) fun r2 w3 =>
  if cC (w3.2.1 12 1) = 6 then
  q_b (fX6_numberOf (w3.2.1 12 1) a1 1 w3) fun r5 w6 =>
  q_b (fX0_squareOf ((w6.1 12 4) - r2) ((w6.1 12 5) - r5) w6) fun r7 w8 =>
  if cC (w8.2.1 12 1) = 6 then
  q_b (fX6_numberOf (w8.2.1 12 1) a1 2 w8) fun r10 w11 =>
  q_b (fX0_tired r10 w11) fun r12 w13 =>
  q_b (fX0_squareOf r12 0 w13) fun r14 w15 =>
  q_lt (r7 - r14) fun y16 =>
  if 0 ≤ y16 then
    q_b (fX0_root y16 w15) fun r17 w18 =>
    q_b (fX0_root r7 w18) fun r19 w20 =>
    q_b (fX0_stretchFrom r2 r5 r17 r19 w20) fun r21 w22 =>
    some (1, w22)
  else
    some (0, w15)
  else none
  else none
  else none
set_option maxHeartbeats 4000000 in
set_option maxRecDepth 100000 in
theorem kX0_leaveDrop (X : q_X) (l : Launch) (a1 : Int32) (w : q_W) : q_Ct X S_C l mX0_leaveDrop 1 q_tI [.ref 12, .int a1] w (fX0_leaveDrop a1 w) := by
  refine q_intro (lv := [(0, .ref 12), (1, .int a1)]) (by decide +kernel) rfl (Nat.le_of_ble_eq_true rfl) rfl ?_
  refine q_aload_n 0 eX0_leaveDrop_0 rfl rfl ?_
  refine q_getR eX0_leaveDrop_1 fl_0_15 tC_12 rfl ?_
  refine q_ck (fun g1 => ?_)
  refine q_iload_n 1 eX0_leaveDrop_4 rfl rfl ?_
  refine q_iconst eX0_leaveDrop_5 kiconst_0 ?_
  refine q_callVI (As := [.int a1, .int 0]) (st := []) eX0_leaveDrop_6 cv_0_41 (kX6_numberOf X l (w.2.1 12 1) a1 0 w) g1 rfl (by decide) rfl rfl (Nat.le_of_ble_eq_true rfl) (by decide) (fun r2 w3 => ?_)
  refine q_istore_n (lv' := [(2, .int r2), (0, .ref 12), (1, .int a1)]) eX0_leaveDrop_9 rfl (by decide) rfl ?_
  refine q_aload_n 1 eX0_leaveDrop_10 rfl rfl ?_
  refine q_getR eX0_leaveDrop_11 fl_0_15 tC_12 rfl ?_
  refine q_ck (fun g4 => ?_)
  refine q_iload_n 2 eX0_leaveDrop_14 rfl rfl ?_
  refine q_iconst eX0_leaveDrop_15 kiconst_1 ?_
  refine q_callVI (As := [.int a1, .int 1]) (st := []) eX0_leaveDrop_16 cv_0_41 (kX6_numberOf X l (w3.2.1 12 1) a1 1 w3) g4 rfl (by decide) rfl rfl (Nat.le_of_ble_eq_true rfl) (by decide) (fun r5 w6 => ?_)
  refine q_istore_n (lv' := [(3, .int r5), (2, .int r2), (0, .ref 12), (1, .int a1)]) eX0_leaveDrop_19 rfl (by decide) rfl ?_
  refine q_aload_n 2 eX0_leaveDrop_20 rfl rfl ?_
  refine q_getI eX0_leaveDrop_21 fl_0_32 tC_12 rfl ?_
  refine q_iload_n 1 eX0_leaveDrop_24 rfl rfl ?_
  refine q_isub eX0_leaveDrop_25 ?_
  refine q_aload_n 2 eX0_leaveDrop_26 rfl rfl ?_
  refine q_getI eX0_leaveDrop_27 fl_0_35 tC_12 rfl ?_
  refine q_iload_n 0 eX0_leaveDrop_30 rfl rfl ?_
  refine q_isub eX0_leaveDrop_31 ?_
  refine q_callSI (As := [.int ((w6.1 12 4) - r2), .int ((w6.1 12 5) - r5)]) (st := []) eX0_leaveDrop_32 cv_0_69 (kX0_squareOf X l ((w6.1 12 4) - r2) ((w6.1 12 5) - r5) w6) rfl rfl (Nat.le_of_ble_eq_true rfl) (by decide) (fun r7 w8 => ?_)
  refine q_istore (lv' := [(4, .int r7), (3, .int r5), (2, .int r2), (0, .ref 12), (1, .int a1)]) eX0_leaveDrop_35 (by decide) rfl ?_
  refine q_iload 0 eX0_leaveDrop_37 rfl ?_
  refine q_aload_n 3 eX0_leaveDrop_39 rfl rfl ?_
  refine q_aload_n 3 eX0_leaveDrop_40 rfl rfl ?_
  refine q_getR eX0_leaveDrop_41 fl_0_15 tC_12 rfl ?_
  refine q_ck (fun g9 => ?_)
  refine q_iload_n 4 eX0_leaveDrop_44 rfl rfl ?_
  refine q_iconst eX0_leaveDrop_45 kiconst_2 ?_
  refine q_callVI (As := [.int a1, .int 2]) (st := [.ref 12, .int r7]) eX0_leaveDrop_46 cv_0_41 (kX6_numberOf X l (w8.2.1 12 1) a1 2 w8) g9 rfl (by decide) rfl rfl (Nat.le_of_ble_eq_true rfl) (by decide) (fun r10 w11 => ?_)
  refine q_callVI (As := [.int r10]) (st := [.int r7]) eX0_leaveDrop_49 cv_0_72 (kX0_tired X l r10 w11) tC_12 rfl (by decide) rfl rfl (Nat.le_of_ble_eq_true rfl) (by decide) (fun r12 w13 => ?_)
  refine q_iconst eX0_leaveDrop_52 kiconst_0 ?_
  refine q_callSI (As := [.int r12, .int 0]) (st := [.int r7]) eX0_leaveDrop_53 cv_0_69 (kX0_squareOf X l r12 0 w13) rfl rfl (Nat.le_of_ble_eq_true rfl) (by decide) (fun r14 w15 => ?_)
  refine q_isub eX0_leaveDrop_56 ?_
  refine q_ltI (fun y16 => ?_)
  refine q_istore (lv' := [(5, .int y16), (4, .int r7), (3, .int r5), (2, .int r2), (0, .ref 12), (1, .int a1)]) eX0_leaveDrop_57 (by decide) rfl ?_
  refine q_iload 0 eX0_leaveDrop_59 rfl ?_
  refine q_if_ge (tgt := 66) eX0_leaveDrop_61 (by decide) (fun _ => ?_) (fun _ => ?_)
  · refine q_aload_n 4 eX0_leaveDrop_66 rfl rfl ?_
    refine q_iload_n 3 eX0_leaveDrop_67 rfl rfl ?_
    refine q_iload_n 2 eX0_leaveDrop_68 rfl rfl ?_
    refine q_iload 0 eX0_leaveDrop_69 rfl ?_
    refine q_callSI (As := [.int y16]) (st := [.int r5, .int r2, .ref 12]) eX0_leaveDrop_71 cv_0_75 (kX0_root X l y16 w15) rfl rfl (Nat.le_of_ble_eq_true rfl) (by decide) (fun r17 w18 => ?_)
    refine q_iload 1 eX0_leaveDrop_74 rfl ?_
    refine q_callSI (As := [.int r7]) (st := [.int r17, .int r5, .int r2, .ref 12]) eX0_leaveDrop_76 cv_0_75 (kX0_root X l r7 w18) rfl rfl (Nat.le_of_ble_eq_true rfl) (by decide) (fun r19 w20 => ?_)
    refine q_callVV (As := [.int r2, .int r5, .int r17, .int r19]) (st := []) eX0_leaveDrop_79 cv_0_78 (kX0_stretchFrom X l r2 r5 r17 r19 w20) tC_12 rfl (by decide) rfl rfl (Nat.le_of_ble_eq_true rfl) (by decide) (fun r21 w22 => ?_)
    refine q_iconst eX0_leaveDrop_82 kiconst_1 ?_
    exact q_zret eX0_leaveDrop_83 rfl rfl
  · refine q_iconst eX0_leaveDrop_64 kiconst_0 ?_
    exact q_zret eX0_leaveDrop_65 rfl rfl
def fX0_moveBy (a1 : Int32) (a2 : Int32) (w : q_W) : Option (Unit × q_W) :=
  if cC (w.2.1 12 1) = 6 then
  q_b (fX6_numberOf (w.2.1 12 1) a1 0 w) fun r2 w3 =>
  if r2 = 0 then
    q_lt (q_sI w3 12 4 ((w3.1 12 4) + a2)) fun w4 =>
    some ((), w4)
  else
    q_lt (q_sI w3 12 5 ((w3.1 12 5) + a2)) fun w5 =>
    some ((), w5)
  else none
set_option maxHeartbeats 4000000 in
set_option maxRecDepth 100000 in
theorem kX0_moveBy (X : q_X) (l : Launch) (a1 : Int32) (a2 : Int32) (w : q_W) : q_Ct X S_C l mX0_moveBy 1 q_tV [.ref 12, .int a1, .int a2] w (fX0_moveBy a1 a2 w) := by
  refine q_intro (lv := [(0, .ref 12), (1, .int a1), (2, .int a2)]) (by decide +kernel) rfl (Nat.le_of_ble_eq_true rfl) rfl ?_
  refine q_aload_n 0 eX0_moveBy_0 rfl rfl ?_
  refine q_getR eX0_moveBy_1 fl_0_15 tC_12 rfl ?_
  refine q_ck (fun g1 => ?_)
  refine q_iload_n 1 eX0_moveBy_4 rfl rfl ?_
  refine q_iconst eX0_moveBy_5 kiconst_0 ?_
  refine q_callVI (As := [.int a1, .int 0]) (st := []) eX0_moveBy_6 cv_0_41 (kX6_numberOf X l (w.2.1 12 1) a1 0 w) g1 rfl (by decide) rfl rfl (Nat.le_of_ble_eq_true rfl) (by decide) (fun r2 w3 => ?_)
  refine q_if_ne (tgt := 25) eX0_moveBy_9 (by decide) (fun _ => ?_) (fun _ => ?_)
  · refine q_aload_n 0 eX0_moveBy_12 rfl rfl ?_
    refine q_dup eX0_moveBy_13 rfl ?_
    refine q_getI eX0_moveBy_14 fl_0_32 tC_12 rfl ?_
    refine q_iload_n 2 eX0_moveBy_17 rfl rfl ?_
    refine q_iadd eX0_moveBy_18 ?_
    refine q_putI eX0_moveBy_19 fp_0_32 tC_12 rfl ⟨rfl, rfl⟩ ?_
    refine q_ltW (fun w4 => ?_)
    refine q_goto (tgt := 35) eX0_moveBy_22 (by decide) ?_
    exact q_return eX0_moveBy_35 rfl
  · refine q_aload_n 0 eX0_moveBy_25 rfl rfl ?_
    refine q_dup eX0_moveBy_26 rfl ?_
    refine q_getI eX0_moveBy_27 fl_0_35 tC_12 rfl ?_
    refine q_iload_n 2 eX0_moveBy_30 rfl rfl ?_
    refine q_iadd eX0_moveBy_31 ?_
    refine q_putI eX0_moveBy_32 fp_0_35 tC_12 rfl ⟨rfl, rfl⟩ ?_
    refine q_ltW (fun w5 => ?_)
    exact q_return eX0_moveBy_35 rfl
def fX0_goBack_n94 (w : q_W) : Option (Int32 × q_W) :=
  q_b (fX0_isPoint (w.1 12 4) (w.1 12 5) w) fun r1 w2 =>
  if r1 = 0 then
    some ((-2), w2)
  else
    some ((-1), w2)
set_option maxHeartbeats 4000000 in
set_option maxRecDepth 100000 in
theorem jX0_goBack_n94 (X : q_X) (l : Launch) (w : q_W) : q_J X S_C l mX0_goBack 2 q_tI 94 [(0, .ref 12)] [] w (fX0_goBack_n94 w) := by
  refine q_aload_n 0 eX0_goBack_94 rfl rfl ?_
  refine q_getI eX0_goBack_95 fl_0_32 tC_12 rfl ?_
  refine q_aload_n 0 eX0_goBack_98 rfl rfl ?_
  refine q_getI eX0_goBack_99 fl_0_35 tC_12 rfl ?_
  refine q_callSI (As := [.int (w.1 12 4), .int (w.1 12 5)]) (st := []) eX0_goBack_102 cv_0_46 (kX0_isPoint X l (w.1 12 4) (w.1 12 5) w) rfl rfl (Nat.le_of_ble_eq_true rfl) (by decide) (fun r1 w2 => ?_)
  refine q_if_eq (tgt := 112) eX0_goBack_105 (by decide) (fun _ => ?_) (fun _ => ?_)
  · refine q_bipush eX0_goBack_112 kbipush_m2 ?_
    exact q_ireturn eX0_goBack_114 rfl
  · refine q_iconst eX0_goBack_108 kiconst_m1 ?_
    refine q_goto (tgt := 114) eX0_goBack_109 (by decide) ?_
    exact q_ireturn eX0_goBack_114 rfl
def fX0_goBack_n88 (rec22 : Int32 → q_W → Option (Int32 × q_W)) (x3 : Int32) (w : q_W) : Option (Int32 × q_W) :=
  q_lt (x3 + (-1)) fun y1 =>
  rec22 y1 w
set_option maxHeartbeats 4000000 in
set_option maxRecDepth 100000 in
theorem jX0_goBack_n88 (X : q_X) (l : Launch) (rec22 : Int32 → q_W → Option (Int32 × q_W)) (hr22 : ∀ x3 w, q_J X S_C l mX0_goBack 2 q_tI 22 [(0, .ref 12), (3, .int x3)] [] w (rec22 x3 w)) (x3 : Int32) (w : q_W) : q_J X S_C l mX0_goBack 2 q_tI 88 [(0, .ref 12), (3, .int x3)] [] w (fX0_goBack_n88 rec22 x3 w) := by
  refine q_ltE (fun y1 hy1 => ?_)
  refine q_iinc (v := y1) (lv' := [(3, .int y1), (0, .ref 12)]) 1 eX0_goBack_88 rfl hy1 (by decide) rfl ?_
  refine q_goto (tgt := 22) eX0_goBack_91 (by decide) ?_
  exact q_sub [1, 0] rfl (hr22 y1 w)
def fX0_goBack_h22 (rec22 : Int32 → q_W → Option (Int32 × q_W)) (x3 : Int32) (w : q_W) : Option (Int32 × q_W) :=
  if x3 < 0 then
    fX0_goBack_n94 w
  else
    q_b (fX0_isPoint (w.1 12 4) (w.1 12 5) w) fun r1 w2 =>
    if r1 = 0 then
      fX0_goBack_n94 w2
    else
      if q_inb x3 120 then
      q_lt (w2.1 13 (q_ix x3)) fun y3 =>
      if cC (w2.2.1 12 1) = 6 then
      q_b (fX6_kindOf (w2.2.1 12 1) y3 w2) fun r5 w6 =>
      if r5 = 0 then
        q_b (fX0_leaveDrop y3 w6) fun r7 w8 =>
        if r7 = 0 then
          some (y3, w8)
        else
          fX0_goBack_n88 rec22 x3 w8
      else
        q_b (fX0_dragOf y3 w6) fun r9 w10 =>
        q_b (fX0_moveBy y3 (0 - r9) w10) fun r11 w12 =>
        fX0_goBack_n88 rec22 x3 w12
      else none
      else none
def fX0_goBack_l22 : Int32 → q_W → Option (Int32 × q_W) := q_it q_N (fX0_goBack_h22) (fun _ _ => none)
set_option maxHeartbeats 4000000 in
set_option maxRecDepth 100000 in
theorem jX0_goBack_h22 (X : q_X) (l : Launch) (rec22 : Int32 → q_W → Option (Int32 × q_W)) (hr22 : ∀ x3 w, q_J X S_C l mX0_goBack 2 q_tI 22 [(0, .ref 12), (3, .int x3)] [] w (rec22 x3 w)) : ∀ x3 w, q_J X S_C l mX0_goBack 2 q_tI 22 [(0, .ref 12), (3, .int x3)] [] w (fX0_goBack_h22 rec22 x3 w) := by
  intro x3 w
  refine q_iload_n 1 eX0_goBack_22 rfl rfl ?_
  refine q_if_lt (tgt := 94) eX0_goBack_23 (by decide) (fun _ => ?_) (fun _ => ?_)
  · exact q_sub [0] rfl (jX0_goBack_n94 X l w)
  · refine q_aload_n 0 eX0_goBack_26 rfl rfl ?_
    refine q_getI eX0_goBack_27 fl_0_32 tC_12 rfl ?_
    refine q_aload_n 0 eX0_goBack_30 rfl rfl ?_
    refine q_getI eX0_goBack_31 fl_0_35 tC_12 rfl ?_
    refine q_callSI (As := [.int (w.1 12 4), .int (w.1 12 5)]) (st := []) eX0_goBack_34 cv_0_46 (kX0_isPoint X l (w.1 12 4) (w.1 12 5) w) rfl rfl (Nat.le_of_ble_eq_true rfl) (by decide) (fun r1 w2 => ?_)
    refine q_if_eq (tgt := 94) eX0_goBack_37 (by decide) (fun _ => ?_) (fun _ => ?_)
    · exact q_sub [0] rfl (jX0_goBack_n94 X l w2)
    · refine q_aload_n 0 eX0_goBack_40 rfl rfl ?_
      refine q_getG (v := 13) eX0_goBack_41 fl_0_11 tC_12 rfl gC_12_0 ?_
      refine q_iload_n 1 eX0_goBack_44 rfl rfl ?_
      refine q_iald eX0_goBack_45 tC_13 nC_13 ?_
      refine q_ltI (fun y3 => ?_)
      refine q_istore (lv' := [(4, .int y3), (0, .ref 12), (3, .int x3)]) eX0_goBack_46 (by decide) rfl ?_
      refine q_aload_n 1 eX0_goBack_48 rfl rfl ?_
      refine q_getR eX0_goBack_49 fl_0_15 tC_12 rfl ?_
      refine q_ck (fun g4 => ?_)
      refine q_iload 0 eX0_goBack_52 rfl ?_
      refine q_callVI (As := [.int y3]) (st := []) eX0_goBack_54 cv_0_50 (kX6_kindOf X l (w2.2.1 12 1) y3 w2) g4 rfl (by decide) rfl rfl (Nat.le_of_ble_eq_true rfl) (by decide) (fun r5 w6 => ?_)
      refine q_if_eq (tgt := 76) eX0_goBack_57 (by decide) (fun _ => ?_) (fun _ => ?_)
      · refine q_aload_n 1 eX0_goBack_76 rfl rfl ?_
        refine q_iload 0 eX0_goBack_77 rfl ?_
        refine q_callVI (As := [.int y3]) (st := []) eX0_goBack_79 cv_0_61 (kX0_leaveDrop X l y3 w6) tC_12 rfl (by decide) rfl rfl (Nat.le_of_ble_eq_true rfl) (by decide) (fun r7 w8 => ?_)
        refine q_if_ne (tgt := 88) eX0_goBack_82 (by decide) (fun _ => ?_) (fun _ => ?_)
        · refine q_iload 0 eX0_goBack_85 rfl ?_
          exact q_ireturn eX0_goBack_87 rfl
        · exact q_sub [1, 2] rfl (jX0_goBack_n88 X l rec22 hr22 x3 w8)
      · refine q_aload_n 1 eX0_goBack_60 rfl rfl ?_
        refine q_iload 0 eX0_goBack_61 rfl ?_
        refine q_aload_n 1 eX0_goBack_63 rfl rfl ?_
        refine q_iload 0 eX0_goBack_64 rfl ?_
        refine q_callVI (As := [.int y3]) (st := [.int y3, .ref 12]) eX0_goBack_66 cv_0_54 (kX0_dragOf X l y3 w6) tC_12 rfl (by decide) rfl rfl (Nat.le_of_ble_eq_true rfl) (by decide) (fun r9 w10 => ?_)
        refine q_ineg eX0_goBack_69 ?_
        refine q_callVV (As := [.int y3, .int (0 - r9)]) (st := []) eX0_goBack_70 cv_0_57 (kX0_moveBy X l y3 (0 - r9) w10) tC_12 rfl (by decide) rfl rfl (Nat.le_of_ble_eq_true rfl) (by decide) (fun r11 w12 => ?_)
        refine q_goto (tgt := 88) eX0_goBack_73 (by decide) ?_
        exact q_sub [1, 2] rfl (jX0_goBack_n88 X l rec22 hr22 x3 w12)
set_option maxHeartbeats 4000000 in
set_option maxRecDepth 100000 in
theorem jX0_goBack_l22 (X : q_X) (l : Launch) : ∀ x3 w, q_J X S_C l mX0_goBack 2 q_tI 22 [(0, .ref 12), (3, .int x3)] [] w (fX0_goBack_l22 x3 w) := by
  exact q_it_ind (fun rc => ∀ x3 w, q_J X S_C l mX0_goBack 2 q_tI 22 [(0, .ref 12), (3, .int x3)] [] w (rc x3 w)) _ _ (fun _ _ => q_none) (fun rc hrc => jX0_goBack_h22 X l rc hrc) q_N
def fX0_goBack (a1 : Int32) (a2 : Int32) (w : q_W) : Option (Int32 × q_W) :=
  q_lt (q_sI w 12 4 a1) fun w1 =>
  q_lt (q_sI w1 12 5 a2) fun w2 =>
  q_lt ((q_imin (w2.1 12 2) 120) - 1) fun y3 =>
  fX0_goBack_l22 y3 w2
set_option maxHeartbeats 4000000 in
set_option maxRecDepth 100000 in
theorem kX0_goBack (X : q_X) (l : Launch) (a1 : Int32) (a2 : Int32) (w : q_W) : q_Ct X S_C l mX0_goBack 2 q_tI [.ref 12, .int a1, .int a2] w (fX0_goBack a1 a2 w) := by
  refine q_intro (lv := [(0, .ref 12), (1, .int a1), (2, .int a2)]) (by decide +kernel) rfl (Nat.le_of_ble_eq_true rfl) rfl ?_
  refine q_aload_n 0 eX0_goBack_0 rfl rfl ?_
  refine q_iload_n 1 eX0_goBack_1 rfl rfl ?_
  refine q_putI eX0_goBack_2 fp_0_32 tC_12 rfl ⟨rfl, rfl⟩ ?_
  refine q_ltW (fun w1 => ?_)
  refine q_aload_n 0 eX0_goBack_5 rfl rfl ?_
  refine q_iload_n 2 eX0_goBack_6 rfl rfl ?_
  refine q_putI eX0_goBack_7 fp_0_35 tC_12 rfl ⟨rfl, rfl⟩ ?_
  refine q_ltW (fun w2 => ?_)
  refine q_aload_n 0 eX0_goBack_10 rfl rfl ?_
  refine q_getI eX0_goBack_11 fl_0_19 tC_12 rfl ?_
  refine q_bipush eX0_goBack_14 kbipush_120 ?_
  refine q_mmin eX0_goBack_16 cv_0_23 (Nat.le_of_ble_eq_true rfl) (by decide) ?_
  refine q_iconst eX0_goBack_19 kiconst_1 ?_
  refine q_isub eX0_goBack_20 ?_
  refine q_ltI (fun y3 => ?_)
  refine q_istore_n (lv' := [(3, .int y3), (0, .ref 12), (1, .int a1), (2, .int a2)]) eX0_goBack_21 rfl (by decide) rfl ?_
  exact q_sub [1, 0] rfl (jX0_goBack_l22 X l y3 w2)
def fX0_colourOf (a1 : Int32) (a2 : Int32) (w : q_W) : Option (Int32 × q_W) :=
  q_b (fX0_goBack a1 a2 w) fun r1 w2 =>
  if r1 < 0 then
    some ((-1), w2)
  else
    if cC (w2.2.1 12 1) = 6 then
    q_b (fX6_numberOf (w2.2.1 12 1) r1 3 w2) fun r4 w5 =>
    some (r4, w5)
    else none
set_option maxHeartbeats 4000000 in
set_option maxRecDepth 100000 in
theorem kX0_colourOf (X : q_X) (l : Launch) (a1 : Int32) (a2 : Int32) (w : q_W) : q_Ct X S_C l mX0_colourOf 3 q_tI [.ref 12, .int a1, .int a2] w (fX0_colourOf a1 a2 w) := by
  refine q_intro (lv := [(0, .ref 12), (1, .int a1), (2, .int a2)]) (by decide +kernel) rfl (Nat.le_of_ble_eq_true rfl) rfl ?_
  refine q_aload_n 0 eX0_colourOf_0 rfl rfl ?_
  refine q_iload_n 1 eX0_colourOf_1 rfl rfl ?_
  refine q_iload_n 2 eX0_colourOf_2 rfl rfl ?_
  refine q_callVI (As := [.int a1, .int a2]) (st := []) eX0_colourOf_3 cv_0_38 (kX0_goBack X l a1 a2 w) tC_12 rfl (by decide) rfl rfl (Nat.le_of_ble_eq_true rfl) (by decide) (fun r1 w2 => ?_)
  refine q_istore_n (lv' := [(3, .int r1), (0, .ref 12), (1, .int a1), (2, .int a2)]) eX0_colourOf_6 rfl (by decide) rfl ?_
  refine q_iload_n 0 eX0_colourOf_7 rfl rfl ?_
  refine q_if_lt (tgt := 23) eX0_colourOf_8 (by decide) (fun _ => ?_) (fun _ => ?_)
  · refine q_iconst eX0_colourOf_23 kiconst_m1 ?_
    exact q_ireturn eX0_colourOf_24 rfl
  · refine q_aload_n 1 eX0_colourOf_11 rfl rfl ?_
    refine q_getR eX0_colourOf_12 fl_0_15 tC_12 rfl ?_
    refine q_ck (fun g3 => ?_)
    refine q_iload_n 0 eX0_colourOf_15 rfl rfl ?_
    refine q_iconst eX0_colourOf_16 kiconst_3 ?_
    refine q_callVI (As := [.int r1, .int 3]) (st := []) eX0_colourOf_17 cv_0_41 (kX6_numberOf X l (w2.2.1 12 1) r1 3 w2) g3 rfl (by decide) rfl rfl (Nat.le_of_ble_eq_true rfl) (by decide) (fun r4 w5 => ?_)
    refine q_goto (tgt := 24) eX0_colourOf_20 (by decide) ?_
    exact q_ireturn eX0_colourOf_24 rfl
def fX0_makeWay (a1 : Int32) (w : q_W) : Option (Unit × q_W) :=
  if cC (w.2.1 12 1) = 6 then
  q_b (fX6_numberOf (w.2.1 12 1) a1 0 w) fun r2 w3 =>
  if cC (w3.2.1 12 1) = 6 then
  q_b (fX6_numberOf (w3.2.1 12 1) a1 1 w3) fun r5 w6 =>
  q_b (fX0_squareOf ((w6.1 12 4) - r2) ((w6.1 12 5) - r5) w6) fun r7 w8 =>
  if cC (w8.2.1 12 1) = 6 then
  q_b (fX6_numberOf (w8.2.1 12 1) a1 2 w8) fun r10 w11 =>
  q_b (fX0_tired r10 w11) fun r12 w13 =>
  if r7 = 0 then
    q_lt (q_sI w13 12 4 ((w13.1 12 4) + r12)) fun w14 =>
    some ((), w14)
  else
    q_b (fX0_squareOf r12 0 w13) fun r15 w16 =>
    q_b (fX0_root (r7 + r15) w16) fun r17 w18 =>
    q_b (fX0_root r7 w18) fun r19 w20 =>
    q_b (fX0_stretchFrom r2 r5 r17 r19 w20) fun r21 w22 =>
    some ((), w22)
  else none
  else none
  else none
set_option maxHeartbeats 4000000 in
set_option maxRecDepth 100000 in
theorem kX0_makeWay (X : q_X) (l : Launch) (a1 : Int32) (w : q_W) : q_Ct X S_C l mX0_makeWay 1 q_tV [.ref 12, .int a1] w (fX0_makeWay a1 w) := by
  refine q_intro (lv := [(0, .ref 12), (1, .int a1)]) (by decide +kernel) rfl (Nat.le_of_ble_eq_true rfl) rfl ?_
  refine q_aload_n 0 eX0_makeWay_0 rfl rfl ?_
  refine q_getR eX0_makeWay_1 fl_0_15 tC_12 rfl ?_
  refine q_ck (fun g1 => ?_)
  refine q_iload_n 1 eX0_makeWay_4 rfl rfl ?_
  refine q_iconst eX0_makeWay_5 kiconst_0 ?_
  refine q_callVI (As := [.int a1, .int 0]) (st := []) eX0_makeWay_6 cv_0_41 (kX6_numberOf X l (w.2.1 12 1) a1 0 w) g1 rfl (by decide) rfl rfl (Nat.le_of_ble_eq_true rfl) (by decide) (fun r2 w3 => ?_)
  refine q_istore_n (lv' := [(2, .int r2), (0, .ref 12), (1, .int a1)]) eX0_makeWay_9 rfl (by decide) rfl ?_
  refine q_aload_n 1 eX0_makeWay_10 rfl rfl ?_
  refine q_getR eX0_makeWay_11 fl_0_15 tC_12 rfl ?_
  refine q_ck (fun g4 => ?_)
  refine q_iload_n 2 eX0_makeWay_14 rfl rfl ?_
  refine q_iconst eX0_makeWay_15 kiconst_1 ?_
  refine q_callVI (As := [.int a1, .int 1]) (st := []) eX0_makeWay_16 cv_0_41 (kX6_numberOf X l (w3.2.1 12 1) a1 1 w3) g4 rfl (by decide) rfl rfl (Nat.le_of_ble_eq_true rfl) (by decide) (fun r5 w6 => ?_)
  refine q_istore_n (lv' := [(3, .int r5), (2, .int r2), (0, .ref 12), (1, .int a1)]) eX0_makeWay_19 rfl (by decide) rfl ?_
  refine q_aload_n 2 eX0_makeWay_20 rfl rfl ?_
  refine q_getI eX0_makeWay_21 fl_0_32 tC_12 rfl ?_
  refine q_iload_n 1 eX0_makeWay_24 rfl rfl ?_
  refine q_isub eX0_makeWay_25 ?_
  refine q_aload_n 2 eX0_makeWay_26 rfl rfl ?_
  refine q_getI eX0_makeWay_27 fl_0_35 tC_12 rfl ?_
  refine q_iload_n 0 eX0_makeWay_30 rfl rfl ?_
  refine q_isub eX0_makeWay_31 ?_
  refine q_callSI (As := [.int ((w6.1 12 4) - r2), .int ((w6.1 12 5) - r5)]) (st := []) eX0_makeWay_32 cv_0_69 (kX0_squareOf X l ((w6.1 12 4) - r2) ((w6.1 12 5) - r5) w6) rfl rfl (Nat.le_of_ble_eq_true rfl) (by decide) (fun r7 w8 => ?_)
  refine q_istore (lv' := [(4, .int r7), (3, .int r5), (2, .int r2), (0, .ref 12), (1, .int a1)]) eX0_makeWay_35 (by decide) rfl ?_
  refine q_aload_n 3 eX0_makeWay_37 rfl rfl ?_
  refine q_aload_n 3 eX0_makeWay_38 rfl rfl ?_
  refine q_getR eX0_makeWay_39 fl_0_15 tC_12 rfl ?_
  refine q_ck (fun g9 => ?_)
  refine q_iload_n 4 eX0_makeWay_42 rfl rfl ?_
  refine q_iconst eX0_makeWay_43 kiconst_2 ?_
  refine q_callVI (As := [.int a1, .int 2]) (st := [.ref 12]) eX0_makeWay_44 cv_0_41 (kX6_numberOf X l (w8.2.1 12 1) a1 2 w8) g9 rfl (by decide) rfl rfl (Nat.le_of_ble_eq_true rfl) (by decide) (fun r10 w11 => ?_)
  refine q_callVI (As := [.int r10]) (st := []) eX0_makeWay_47 cv_0_72 (kX0_tired X l r10 w11) tC_12 rfl (by decide) rfl rfl (Nat.le_of_ble_eq_true rfl) (by decide) (fun r12 w13 => ?_)
  refine q_istore (lv' := [(5, .int r12), (4, .int r7), (3, .int r5), (2, .int r2), (0, .ref 12), (1, .int a1)]) eX0_makeWay_50 (by decide) rfl ?_
  refine q_iload 1 eX0_makeWay_52 rfl ?_
  refine q_if_ne (tgt := 71) eX0_makeWay_54 (by decide) (fun _ => ?_) (fun _ => ?_)
  · refine q_aload_n 4 eX0_makeWay_57 rfl rfl ?_
    refine q_dup eX0_makeWay_58 rfl ?_
    refine q_getI eX0_makeWay_59 fl_0_32 tC_12 rfl ?_
    refine q_iload 0 eX0_makeWay_62 rfl ?_
    refine q_iadd eX0_makeWay_64 ?_
    refine q_putI eX0_makeWay_65 fp_0_32 tC_12 rfl ⟨rfl, rfl⟩ ?_
    refine q_ltW (fun w14 => ?_)
    refine q_goto (tgt := 94) eX0_makeWay_68 (by decide) ?_
    exact q_return eX0_makeWay_94 rfl
  · refine q_aload_n 4 eX0_makeWay_71 rfl rfl ?_
    refine q_iload_n 3 eX0_makeWay_72 rfl rfl ?_
    refine q_iload_n 2 eX0_makeWay_73 rfl rfl ?_
    refine q_iload 1 eX0_makeWay_74 rfl ?_
    refine q_iload 0 eX0_makeWay_76 rfl ?_
    refine q_iconst eX0_makeWay_78 kiconst_0 ?_
    refine q_callSI (As := [.int r12, .int 0]) (st := [.int r7, .int r5, .int r2, .ref 12]) eX0_makeWay_79 cv_0_69 (kX0_squareOf X l r12 0 w13) rfl rfl (Nat.le_of_ble_eq_true rfl) (by decide) (fun r15 w16 => ?_)
    refine q_iadd eX0_makeWay_82 ?_
    refine q_callSI (As := [.int (r7 + r15)]) (st := [.int r5, .int r2, .ref 12]) eX0_makeWay_83 cv_0_75 (kX0_root X l (r7 + r15) w16) rfl rfl (Nat.le_of_ble_eq_true rfl) (by decide) (fun r17 w18 => ?_)
    refine q_iload 1 eX0_makeWay_86 rfl ?_
    refine q_callSI (As := [.int r7]) (st := [.int r17, .int r5, .int r2, .ref 12]) eX0_makeWay_88 cv_0_75 (kX0_root X l r7 w18) rfl rfl (Nat.le_of_ble_eq_true rfl) (by decide) (fun r19 w20 => ?_)
    refine q_callVV (As := [.int r2, .int r5, .int r17, .int r19]) (st := []) eX0_makeWay_91 cv_0_78 (kX0_stretchFrom X l r2 r5 r17 r19 w20) tC_12 rfl (by decide) rfl rfl (Nat.le_of_ble_eq_true rfl) (by decide) (fun r21 w22 => ?_)
    exact q_return eX0_makeWay_94 rfl
