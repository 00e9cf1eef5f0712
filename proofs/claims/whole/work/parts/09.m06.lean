/-! methods, printed by program: X8_findPieces X8_countPieces X8_largestPiece X9_size X9_hasRoom X9_addByte X9_addWord X9_cut X10_feed X10_back X10_read X10_place X10_put X10_drop X10_line X10_comb X10_wave X10_lay X10_strike X10_run X10_broke X10_where X10_parameters X10_kind X10_number X10_struck X10_floatBath X10_colour X10_from X10_to X10_home X10_sheets X10_takeSheet X10_cell -/
def fX8_findPieces_n97 (q0 : Nat) (rec48 : Int32 → q_W → Option (Unit × q_W)) (x1 : Int32) (w : q_W) : Option (Unit × q_W) :=
  q_lt (x1 + 1) fun y1 =>
  rec48 y1 w
set_option maxHeartbeats 4000000 in
set_option maxRecDepth 100000 in
theorem jX8_findPieces_n97 (X : q_X) (l : Launch) (q0 : Nat) (h0 : cC q0 = 8) (rec48 : Int32 → q_W → Option (Unit × q_W)) (hr48 : ∀ x1 w, q_J X S_C l mX8_findPieces 3 q_tV 48 [(0, .ref q0), (1, .int x1)] [] w (rec48 x1 w)) (x1 : Int32) (w : q_W) : q_J X S_C l mX8_findPieces 3 q_tV 97 [(0, .ref q0), (1, .int x1)] [] w (fX8_findPieces_n97 q0 rec48 x1 w) := by
  refine q_ltE (fun y1 hy1 => ?_)
  refine q_iinc (v := y1) (lv' := [(1, .int y1), (0, .ref q0)]) 1 eX8_findPieces_97 rfl hy1 (by decide) rfl ?_
  refine q_goto (tgt := 48) eX8_findPieces_100 (by decide) ?_
  exact q_sub [1, 0] rfl (hr48 y1 w)
def fX8_findPieces_h48 (q0 : Nat) (rec48 : Int32 → q_W → Option (Unit × q_W)) (x1 : Int32) (w : q_W) : Option (Unit × q_W) :=
  if 256 ≤ x1 then
    some ((), w)
  else
    if q_inb x1 256 then
    if (w.1 (fC q0 2) (q_ix x1)) = 0 then
      q_lt (q_sI w q0 4 ((w.1 q0 4) + 1)) fun w1 =>
      q_b (fX8_sizeFrom q0 (x1 / 16) (x1 - x1 / 16 * 16) w1) fun r2 w3 =>
      q_lt (q_sI w3 q0 5 (q_imax (w1.1 q0 5) r2)) fun w4 =>
      fX8_findPieces_n97 q0 rec48 x1 w4
    else
      fX8_findPieces_n97 q0 rec48 x1 w
    else none
def fX8_findPieces_l48 (q0 : Nat) : Int32 → q_W → Option (Unit × q_W) := q_it q_N (fX8_findPieces_h48 q0) (fun _ _ => none)
set_option maxHeartbeats 4000000 in
set_option maxRecDepth 100000 in
theorem jX8_findPieces_h48 (X : q_X) (l : Launch) (q0 : Nat) (h0 : cC q0 = 8) (rec48 : Int32 → q_W → Option (Unit × q_W)) (hr48 : ∀ x1 w, q_J X S_C l mX8_findPieces 3 q_tV 48 [(0, .ref q0), (1, .int x1)] [] w (rec48 x1 w)) : ∀ x1 w, q_J X S_C l mX8_findPieces 3 q_tV 48 [(0, .ref q0), (1, .int x1)] [] w (fX8_findPieces_h48 q0 rec48 x1 w) := by
  intro x1 w
  refine q_iload_n 1 eX8_findPieces_48 rfl rfl ?_
  refine q_sipush eX8_findPieces_49 ksipush_256 ?_
  refine q_icmp_ge (tgt := 103) eX8_findPieces_52 (by decide) (fun _ => ?_) (fun _ => ?_)
  · exact q_return eX8_findPieces_103 rfl
  · refine q_aload_n 0 eX8_findPieces_55 rfl rfl ?_
    refine q_getG (v := (fC q0 2)) eX8_findPieces_56 fl_8_18 h0 rfl rfl ?_
    refine q_iload_n 1 eX8_findPieces_59 rfl rfl ?_
    refine q_zald eX8_findPieces_60 (fxC_8_2 q0 h0) (flC_8_2 q0 h0) ?_
    refine q_if_ne (tgt := 97) eX8_findPieces_61 (by decide) (fun _ => ?_) (fun _ => ?_)
    · refine q_aload_n 0 eX8_findPieces_64 rfl rfl ?_
      refine q_dup eX8_findPieces_65 rfl ?_
      refine q_getI eX8_findPieces_66 fl_8_62 h0 rfl ?_
      refine q_iconst eX8_findPieces_69 kiconst_1 ?_
      refine q_iadd eX8_findPieces_70 ?_
      refine q_putI eX8_findPieces_71 fp_8_62 h0 rfl ⟨rfl, rfl⟩ ?_
      refine q_ltW (fun w1 => ?_)
      refine q_aload_n 0 eX8_findPieces_74 rfl rfl ?_
      refine q_aload_n 0 eX8_findPieces_75 rfl rfl ?_
      refine q_getI eX8_findPieces_76 fl_8_65 h0 rfl ?_
      refine q_aload_n 0 eX8_findPieces_79 rfl rfl ?_
      refine q_iload_n 1 eX8_findPieces_80 rfl rfl ?_
      refine q_bipush eX8_findPieces_81 kbipush_16 ?_
      refine q_idivc eX8_findPieces_83 (by decide) ?_
      refine q_iload_n 1 eX8_findPieces_84 rfl rfl ?_
      refine q_bipush eX8_findPieces_85 kbipush_16 ?_
      refine q_iremc eX8_findPieces_87 (by decide) ?_
      refine q_callVI (As := [.int (x1 / 16), .int (x1 - x1 / 16 * 16)]) (st := [.int (w1.1 q0 5), .ref q0]) eX8_findPieces_88 cv_8_68 (kX8_sizeFrom X l q0 (x1 / 16) (x1 - x1 / 16 * 16) w1) h0 rfl (by decide) rfl rfl (Nat.le_of_ble_eq_true rfl) (by decide) (fun r2 w3 => ?_)
      refine q_mmax eX8_findPieces_91 cv_8_71 (Nat.le_of_ble_eq_true rfl) (by decide) ?_
      refine q_putI eX8_findPieces_94 fp_8_65 h0 rfl ⟨rfl, rfl⟩ ?_
      refine q_ltW (fun w4 => ?_)
      exact q_sub [0, 1] rfl (jX8_findPieces_n97 X l q0 h0 rec48 hr48 x1 w4)
    · exact q_sub [0, 1] rfl (jX8_findPieces_n97 X l q0 h0 rec48 hr48 x1 w)
set_option maxHeartbeats 4000000 in
set_option maxRecDepth 100000 in
theorem jX8_findPieces_l48 (X : q_X) (l : Launch) (q0 : Nat) (h0 : cC q0 = 8) : ∀ x1 w, q_J X S_C l mX8_findPieces 3 q_tV 48 [(0, .ref q0), (1, .int x1)] [] w (fX8_findPieces_l48 q0 x1 w) := by
  exact q_it_ind (fun rc => ∀ x1 w, q_J X S_C l mX8_findPieces 3 q_tV 48 [(0, .ref q0), (1, .int x1)] [] w (rc x1 w)) _ _ (fun _ _ => q_none) (fun rc hrc => jX8_findPieces_h48 X l q0 h0 rc hrc) q_N
def fX8_findPieces_n39 (q0 : Nat) (rec12 : Int32 → q_W → Option (Unit × q_W)) (x1 : Int32) (s0 : Int32) (s1 : Int32) (w : q_W) : Option (Unit × q_W) :=
  if q_inb s1 256 then
  q_lt (q_sI w (fC q0 2) (q_ix s1) (vp_nar .boolean s0)) fun w1 =>
  q_lt (x1 + 1) fun y2 =>
  rec12 y2 w1
  else none
set_option maxHeartbeats 4000000 in
set_option maxRecDepth 100000 in
theorem jX8_findPieces_n39 (X : q_X) (l : Launch) (q0 : Nat) (h0 : cC q0 = 8) (rec12 : Int32 → q_W → Option (Unit × q_W)) (hr12 : ∀ x1 w, q_J X S_C l mX8_findPieces 3 q_tV 12 [(0, .ref q0), (1, .int x1)] [] w (rec12 x1 w)) (x1 : Int32) (s0 : Int32) (s1 : Int32) (w : q_W) : q_J X S_C l mX8_findPieces 3 q_tV 39 [(0, .ref q0), (1, .int x1)] [.int s0, .int s1, .ref (fC q0 2)] w (fX8_findPieces_n39 q0 rec12 x1 s0 s1 w) := by
  refine q_zast eX8_findPieces_39 (fxC_8_2 q0 h0) (flC_8_2 q0 h0) ?_
  refine q_ltW (fun w1 => ?_)
  refine q_ltE (fun y2 hy2 => ?_)
  refine q_iinc (v := y2) (lv' := [(1, .int y2), (0, .ref q0)]) 1 eX8_findPieces_40 rfl hy2 (by decide) rfl ?_
  refine q_goto (tgt := 12) eX8_findPieces_43 (by decide) ?_
  exact q_sub [1, 0] rfl (hr12 y2 w1)
def fX8_findPieces_h12 (q0 : Nat) (rec12 : Int32 → q_W → Option (Unit × q_W)) (x1 : Int32) (w : q_W) : Option (Unit × q_W) :=
  if 256 ≤ x1 then
    fX8_findPieces_l48 q0 0 w
  else
    if q_inb x1 256 then
    if (w.1 (fC q0 0) (q_ix x1)) = (-1) then
      fX8_findPieces_n39 q0 rec12 x1 1 x1 w
    else
      fX8_findPieces_n39 q0 rec12 x1 0 x1 w
    else none
def fX8_findPieces_l12 (q0 : Nat) : Int32 → q_W → Option (Unit × q_W) := q_it q_N (fX8_findPieces_h12 q0) (fun _ _ => none)
set_option maxHeartbeats 4000000 in
set_option maxRecDepth 100000 in
theorem jX8_findPieces_h12 (X : q_X) (l : Launch) (q0 : Nat) (h0 : cC q0 = 8) (rec12 : Int32 → q_W → Option (Unit × q_W)) (hr12 : ∀ x1 w, q_J X S_C l mX8_findPieces 3 q_tV 12 [(0, .ref q0), (1, .int x1)] [] w (rec12 x1 w)) : ∀ x1 w, q_J X S_C l mX8_findPieces 3 q_tV 12 [(0, .ref q0), (1, .int x1)] [] w (fX8_findPieces_h12 q0 rec12 x1 w) := by
  intro x1 w
  refine q_iload_n 1 eX8_findPieces_12 rfl rfl ?_
  refine q_sipush eX8_findPieces_13 ksipush_256 ?_
  refine q_icmp_ge (tgt := 46) eX8_findPieces_16 (by decide) (fun _ => ?_) (fun _ => ?_)
  · refine q_iconst eX8_findPieces_46 kiconst_0 ?_
    refine q_istore_n (lv' := [(1, .int 0), (0, .ref q0)]) eX8_findPieces_47 rfl (by decide) rfl ?_
    exact q_sub [1, 0] rfl (jX8_findPieces_l48 X l q0 h0 0 w)
  · refine q_aload_n 0 eX8_findPieces_19 rfl rfl ?_
    refine q_getG (v := (fC q0 2)) eX8_findPieces_20 fl_8_18 h0 rfl rfl ?_
    refine q_iload_n 1 eX8_findPieces_23 rfl rfl ?_
    refine q_aload_n 0 eX8_findPieces_24 rfl rfl ?_
    refine q_getG (v := (fC q0 0)) eX8_findPieces_25 fl_8_11 h0 rfl rfl ?_
    refine q_iload_n 1 eX8_findPieces_28 rfl rfl ?_
    refine q_iald eX8_findPieces_29 (fxC_8_0 q0 h0) (flC_8_0 q0 h0) ?_
    refine q_iconst eX8_findPieces_30 kiconst_m1 ?_
    refine q_icmp_ne (tgt := 38) eX8_findPieces_31 (by decide) (fun _ => ?_) (fun _ => ?_)
    · refine q_iconst eX8_findPieces_34 kiconst_1 ?_
      refine q_goto (tgt := 39) eX8_findPieces_35 (by decide) ?_
      exact q_sub [0, 1] rfl (jX8_findPieces_n39 X l q0 h0 rec12 hr12 x1 1 x1 w)
    · refine q_iconst eX8_findPieces_38 kiconst_0 ?_
      exact q_sub [0, 1] rfl (jX8_findPieces_n39 X l q0 h0 rec12 hr12 x1 0 x1 w)
set_option maxHeartbeats 4000000 in
set_option maxRecDepth 100000 in
theorem jX8_findPieces_l12 (X : q_X) (l : Launch) (q0 : Nat) (h0 : cC q0 = 8) : ∀ x1 w, q_J X S_C l mX8_findPieces 3 q_tV 12 [(0, .ref q0), (1, .int x1)] [] w (fX8_findPieces_l12 q0 x1 w) := by
  exact q_it_ind (fun rc => ∀ x1 w, q_J X S_C l mX8_findPieces 3 q_tV 12 [(0, .ref q0), (1, .int x1)] [] w (rc x1 w)) _ _ (fun _ _ => q_none) (fun rc hrc => jX8_findPieces_h12 X l q0 h0 rc hrc) q_N
def fX8_findPieces (q0 : Nat) (w : q_W) : Option (Unit × q_W) :=
  if cC q0 = 8 then
  q_lt (q_sI w q0 4 0) fun w1 =>
  q_lt (q_sI w1 q0 5 0) fun w2 =>
  fX8_findPieces_l12 q0 0 w2
  else none
set_option maxHeartbeats 4000000 in
set_option maxRecDepth 100000 in
theorem kX8_findPieces (X : q_X) (l : Launch) (q0 : Nat) (w : q_W) : q_Ct X S_C l mX8_findPieces 3 q_tV [.ref q0] w (fX8_findPieces q0 w) := by
  refine q_intro (lv := [(0, .ref q0)]) (by decide +kernel) rfl (Nat.le_of_ble_eq_true rfl) rfl ?_
  refine q_ck (fun h0 => ?_)
  refine q_aload_n 0 eX8_findPieces_0 rfl rfl ?_
  refine q_iconst eX8_findPieces_1 kiconst_0 ?_
  refine q_putI eX8_findPieces_2 fp_8_62 h0 rfl ⟨rfl, rfl⟩ ?_
  refine q_ltW (fun w1 => ?_)
  refine q_aload_n 0 eX8_findPieces_5 rfl rfl ?_
  refine q_iconst eX8_findPieces_6 kiconst_0 ?_
  refine q_putI eX8_findPieces_7 fp_8_65 h0 rfl ⟨rfl, rfl⟩ ?_
  refine q_ltW (fun w2 => ?_)
  refine q_iconst eX8_findPieces_10 kiconst_0 ?_
  refine q_istore_n (lv' := [(1, .int 0), (0, .ref q0)]) eX8_findPieces_11 rfl (by decide) rfl ?_
  exact q_sub [1, 0] rfl (jX8_findPieces_l12 X l q0 h0 0 w2)
def fX8_countPieces (q0 : Nat) (w : q_W) : Option (Int32 × q_W) :=
  if cC q0 = 8 then
  q_b (fX8_findPieces q0 w) fun r1 w2 =>
  some ((w2.1 q0 4), w2)
  else none
set_option maxHeartbeats 4000000 in
set_option maxRecDepth 100000 in
theorem kX8_countPieces (X : q_X) (l : Launch) (q0 : Nat) (w : q_W) : q_Ct X S_C l mX8_countPieces 4 q_tI [.ref q0] w (fX8_countPieces q0 w) := by
  refine q_intro (lv := [(0, .ref q0)]) (by decide +kernel) rfl (Nat.le_of_ble_eq_true rfl) rfl ?_
  refine q_ck (fun h0 => ?_)
  refine q_aload_n 0 eX8_countPieces_0 rfl rfl ?_
  refine q_callVV (As := []) (st := []) eX8_countPieces_1 cv_8_59 (kX8_findPieces X l q0 w) h0 rfl (by decide) rfl rfl (Nat.le_of_ble_eq_true rfl) (by decide) (fun r1 w2 => ?_)
  refine q_aload_n 0 eX8_countPieces_4 rfl rfl ?_
  refine q_getI eX8_countPieces_5 fl_8_62 h0 rfl ?_
  exact q_ireturn eX8_countPieces_8 rfl
def fX8_largestPiece (q0 : Nat) (w : q_W) : Option (Int32 × q_W) :=
  if cC q0 = 8 then
  q_b (fX8_findPieces q0 w) fun r1 w2 =>
  some ((w2.1 q0 5), w2)
  else none
set_option maxHeartbeats 4000000 in
set_option maxRecDepth 100000 in
theorem kX8_largestPiece (X : q_X) (l : Launch) (q0 : Nat) (w : q_W) : q_Ct X S_C l mX8_largestPiece 4 q_tI [.ref q0] w (fX8_largestPiece q0 w) := by
  refine q_intro (lv := [(0, .ref q0)]) (by decide +kernel) rfl (Nat.le_of_ble_eq_true rfl) rfl ?_
  refine q_ck (fun h0 => ?_)
  refine q_aload_n 0 eX8_largestPiece_0 rfl rfl ?_
  refine q_callVV (As := []) (st := []) eX8_largestPiece_1 cv_8_59 (kX8_findPieces X l q0 w) h0 rfl (by decide) rfl rfl (Nat.le_of_ble_eq_true rfl) (by decide) (fun r1 w2 => ?_)
  refine q_aload_n 0 eX8_largestPiece_4 rfl rfl ?_
  refine q_getI eX8_largestPiece_5 fl_8_65 h0 rfl ?_
  exact q_ireturn eX8_largestPiece_8 rfl
def fX9_size (w : q_W) : Option (Int32 × q_W) :=
  some ((w.1 1 1), w)
set_option maxHeartbeats 4000000 in
set_option maxRecDepth 100000 in
theorem kX9_size (X : q_X) (l : Launch) (w : q_W) : q_Ct X S_C l mX9_size 0 q_tI [.ref 1] w (fX9_size w) := by
  refine q_intro (lv := [(0, .ref 1)]) (by decide +kernel) rfl (Nat.le_of_ble_eq_true rfl) rfl ?_
  refine q_aload_n 0 eX9_size_0 rfl rfl ?_
  refine q_getI eX9_size_1 fl_9_15 tC_1 rfl ?_
  exact q_ireturn eX9_size_4 rfl
def fX9_hasRoom (a1 : Int32) (w : q_W) : Option (Int32 × q_W) :=
  if (2000 - (w.1 1 1)) < a1 then
    some (0, w)
  else
    some (1, w)
set_option maxHeartbeats 4000000 in
set_option maxRecDepth 100000 in
theorem kX9_hasRoom (X : q_X) (l : Launch) (a1 : Int32) (w : q_W) : q_Ct X S_C l mX9_hasRoom 0 q_tI [.ref 1, .int a1] w (fX9_hasRoom a1 w) := by
  refine q_intro (lv := [(0, .ref 1), (1, .int a1)]) (by decide +kernel) rfl (Nat.le_of_ble_eq_true rfl) rfl ?_
  refine q_iload_n 1 eX9_hasRoom_0 rfl rfl ?_
  refine q_sipush eX9_hasRoom_1 ksipush_2000 ?_
  refine q_aload_n 0 eX9_hasRoom_4 rfl rfl ?_
  refine q_getI eX9_hasRoom_5 fl_9_15 tC_1 rfl ?_
  refine q_isub eX9_hasRoom_8 ?_
  refine q_icmp_gt (tgt := 16) eX9_hasRoom_9 (by decide) (fun _ => ?_) (fun _ => ?_)
  · refine q_iconst eX9_hasRoom_16 kiconst_0 ?_
    exact q_zret eX9_hasRoom_17 rfl rfl
  · refine q_iconst eX9_hasRoom_12 kiconst_1 ?_
    refine q_goto (tgt := 17) eX9_hasRoom_13 (by decide) ?_
    exact q_zret eX9_hasRoom_17 rfl rfl
def fX9_addByte (a1 : Int32) (w : q_W) : Option (Unit × q_W) :=
  if (w.1 1 1) < 0 then
    some ((), w)
  else
    if 2000 ≤ (w.1 1 1) then
      some ((), w)
    else
      q_lt (w.1 1 1) fun y1 =>
      if q_inb y1 2000 then
      q_lt (q_sI w 2 (q_ix y1) (vp_nar .byte (Int8.toInt32 (Int32.toInt8 a1)))) fun w2 =>
      q_lt (q_sI w2 1 1 ((w2.1 1 1) + 1)) fun w3 =>
      some ((), w3)
      else none
set_option maxHeartbeats 4000000 in
set_option maxRecDepth 100000 in
theorem kX9_addByte (X : q_X) (l : Launch) (a1 : Int32) (w : q_W) : q_Ct X S_C l mX9_addByte 0 q_tV [.ref 1, .int a1] w (fX9_addByte a1 w) := by
  refine q_intro (lv := [(0, .ref 1), (1, .int a1)]) (by decide +kernel) rfl (Nat.le_of_ble_eq_true rfl) rfl ?_
  refine q_aload_n 0 eX9_addByte_0 rfl rfl ?_
  refine q_getI eX9_addByte_1 fl_9_15 tC_1 rfl ?_
  refine q_if_lt (tgt := 38) eX9_addByte_4 (by decide) (fun _ => ?_) (fun _ => ?_)
  · exact q_return eX9_addByte_38 rfl
  · refine q_aload_n 0 eX9_addByte_7 rfl rfl ?_
    refine q_getI eX9_addByte_8 fl_9_15 tC_1 rfl ?_
    refine q_sipush eX9_addByte_11 ksipush_2000 ?_
    refine q_icmp_ge (tgt := 38) eX9_addByte_14 (by decide) (fun _ => ?_) (fun _ => ?_)
    · exact q_return eX9_addByte_38 rfl
    · refine q_aload_n 0 eX9_addByte_17 rfl rfl ?_
      refine q_getG (v := 2) eX9_addByte_18 fl_9_11 tC_1 rfl gC_1_0 ?_
      refine q_aload_n 0 eX9_addByte_21 rfl rfl ?_
      refine q_getI eX9_addByte_22 fl_9_15 tC_1 rfl ?_
      refine q_iload_n 1 eX9_addByte_25 rfl rfl ?_
      refine q_i2b eX9_addByte_26 ?_
      refine q_ltI1 (fun y1 => ?_)
      refine q_bast eX9_addByte_27 tC_2 nC_2 ?_
      refine q_ltW (fun w2 => ?_)
      refine q_aload_n 0 eX9_addByte_28 rfl rfl ?_
      refine q_dup eX9_addByte_29 rfl ?_
      refine q_getI eX9_addByte_30 fl_9_15 tC_1 rfl ?_
      refine q_iconst eX9_addByte_33 kiconst_1 ?_
      refine q_iadd eX9_addByte_34 ?_
      refine q_putI eX9_addByte_35 fp_9_15 tC_1 rfl ⟨rfl, rfl⟩ ?_
      refine q_ltW (fun w3 => ?_)
      exact q_return eX9_addByte_38 rfl
def fX9_addWord_h3 (rec3 : Int32 → Int32 → q_W → Option (Unit × q_W)) (x1 : Int32) (x2 : Int32) (w : q_W) : Option (Unit × q_W) :=
  if x2 < 0 then
    some ((), w)
  else
    q_b (fX9_addByte ((x1.toUInt32 >>> (x2.toUInt32 &&& Int32.toUInt32 31)).toInt32) w) fun r1 w2 =>
    q_lt (x2 + (-8)) fun y3 =>
    rec3 x1 y3 w2
def fX9_addWord_l3 : Int32 → Int32 → q_W → Option (Unit × q_W) := q_it q_N (fX9_addWord_h3) (fun _ _ _ => none)
set_option maxHeartbeats 4000000 in
set_option maxRecDepth 100000 in
theorem jX9_addWord_h3 (X : q_X) (l : Launch) (rec3 : Int32 → Int32 → q_W → Option (Unit × q_W)) (hr3 : ∀ x1 x2 w, q_J X S_C l mX9_addWord 1 q_tV 3 [(0, .ref 1), (1, .int x1), (2, .int x2)] [] w (rec3 x1 x2 w)) : ∀ x1 x2 w, q_J X S_C l mX9_addWord 1 q_tV 3 [(0, .ref 1), (1, .int x1), (2, .int x2)] [] w (fX9_addWord_h3 rec3 x1 x2 w) := by
  intro x1 x2 w
  refine q_iload_n 2 eX9_addWord_3 rfl rfl ?_
  refine q_if_lt (tgt := 20) eX9_addWord_4 (by decide) (fun _ => ?_) (fun _ => ?_)
  · exact q_return eX9_addWord_20 rfl
  · refine q_aload_n 0 eX9_addWord_7 rfl rfl ?_
    refine q_iload_n 1 eX9_addWord_8 rfl rfl ?_
    refine q_iload_n 2 eX9_addWord_9 rfl rfl ?_
    refine q_iushr eX9_addWord_10 ?_
    refine q_callVV (As := [.int ((x1.toUInt32 >>> (x2.toUInt32 &&& Int32.toUInt32 31)).toInt32)]) (st := []) eX9_addWord_11 cv_9_19 (kX9_addByte X l ((x1.toUInt32 >>> (x2.toUInt32 &&& Int32.toUInt32 31)).toInt32) w) tC_1 rfl (by decide) rfl rfl (Nat.le_of_ble_eq_true rfl) (by decide) (fun r1 w2 => ?_)
    refine q_ltE (fun y3 hy3 => ?_)
    refine q_iinc (v := y3) (lv' := [(2, .int y3), (0, .ref 1), (1, .int x1)]) 2 eX9_addWord_14 rfl hy3 (by decide) rfl ?_
    refine q_goto (tgt := 3) eX9_addWord_17 (by decide) ?_
    exact q_sub [1, 2, 0] rfl (hr3 x1 y3 w2)
set_option maxHeartbeats 4000000 in
set_option maxRecDepth 100000 in
theorem jX9_addWord_l3 (X : q_X) (l : Launch) : ∀ x1 x2 w, q_J X S_C l mX9_addWord 1 q_tV 3 [(0, .ref 1), (1, .int x1), (2, .int x2)] [] w (fX9_addWord_l3 x1 x2 w) := by
  exact q_it_ind (fun rc => ∀ x1 x2 w, q_J X S_C l mX9_addWord 1 q_tV 3 [(0, .ref 1), (1, .int x1), (2, .int x2)] [] w (rc x1 x2 w)) _ _ (fun _ _ _ => q_none) (fun rc hrc => jX9_addWord_h3 X l rc hrc) q_N
def fX9_addWord (a1 : Int32) (w : q_W) : Option (Unit × q_W) :=
  fX9_addWord_l3 a1 24 w
set_option maxHeartbeats 4000000 in
set_option maxRecDepth 100000 in
theorem kX9_addWord (X : q_X) (l : Launch) (a1 : Int32) (w : q_W) : q_Ct X S_C l mX9_addWord 1 q_tV [.ref 1, .int a1] w (fX9_addWord a1 w) := by
  refine q_intro (lv := [(0, .ref 1), (1, .int a1)]) (by decide +kernel) rfl (Nat.le_of_ble_eq_true rfl) rfl ?_
  refine q_bipush eX9_addWord_0 kbipush_24 ?_
  refine q_istore_n (lv' := [(2, .int 24), (0, .ref 1), (1, .int a1)]) eX9_addWord_2 rfl (by decide) rfl ?_
  exact q_sub [1, 2, 0] rfl (jX9_addWord_l3 X l a1 24 w)
def fX9_cut (a1 : Int32) (w : q_W) : Option (Int32 × q_W) :=
  if a1 < 0 then
    some (0, w)
  else
    if a1 ≤ (w.1 1 1) then
      q_lt (q_sI w 1 1 ((w.1 1 1) - a1)) fun w1 =>
      some (1, w1)
    else
      some (0, w)
set_option maxHeartbeats 4000000 in
set_option maxRecDepth 100000 in
theorem kX9_cut (X : q_X) (l : Launch) (a1 : Int32) (w : q_W) : q_Ct X S_C l mX9_cut 0 q_tI [.ref 1, .int a1] w (fX9_cut a1 w) := by
  refine q_intro (lv := [(0, .ref 1), (1, .int a1)]) (by decide +kernel) rfl (Nat.le_of_ble_eq_true rfl) rfl ?_
  refine q_iload_n 1 eX9_cut_0 rfl rfl ?_
  refine q_if_lt (tgt := 12) eX9_cut_1 (by decide) (fun _ => ?_) (fun _ => ?_)
  · refine q_iconst eX9_cut_12 kiconst_0 ?_
    exact q_zret eX9_cut_13 rfl rfl
  · refine q_iload_n 1 eX9_cut_4 rfl rfl ?_
    refine q_aload_n 0 eX9_cut_5 rfl rfl ?_
    refine q_getI eX9_cut_6 fl_9_15 tC_1 rfl ?_
    refine q_icmp_le (tgt := 14) eX9_cut_9 (by decide) (fun _ => ?_) (fun _ => ?_)
    · refine q_aload_n 0 eX9_cut_14 rfl rfl ?_
      refine q_dup eX9_cut_15 rfl ?_
      refine q_getI eX9_cut_16 fl_9_15 tC_1 rfl ?_
      refine q_iload_n 1 eX9_cut_19 rfl rfl ?_
      refine q_isub eX9_cut_20 ?_
      refine q_putI eX9_cut_21 fp_9_15 tC_1 rfl ⟨rfl, rfl⟩ ?_
      refine q_ltW (fun w1 => ?_)
      refine q_iconst eX9_cut_24 kiconst_1 ?_
      exact q_zret eX9_cut_25 rfl rfl
    · refine q_iconst eX9_cut_12 kiconst_0 ?_
      exact q_zret eX9_cut_13 rfl rfl
def fX10_feed (a1 : Int32) (a2 : Int32) (a3 : Int32) (a4 : Int32) (a5 : Int32) (w : q_W) : Option (Int32 × q_W) :=
  q_b (fX9_hasRoom 20 w) fun r1 w2 =>
  if r1 = 0 then
    some ((-1), w2)
  else
    q_b (fX9_addWord a1 w2) fun r3 w4 =>
    q_b (fX9_addWord a2 w4) fun r5 w6 =>
    q_b (fX9_addWord a3 w6) fun r7 w8 =>
    q_b (fX9_addWord a4 w8) fun r9 w10 =>
    q_b (fX9_addWord a5 w10) fun r11 w12 =>
    q_b (fX9_size w12) fun r13 w14 =>
    some (r13, w14)
set_option maxHeartbeats 4000000 in
set_option maxRecDepth 100000 in
theorem kX10_feed (X : q_X) (l : Launch) (a1 : Int32) (a2 : Int32) (a3 : Int32) (a4 : Int32) (a5 : Int32) (w : q_W) : q_Ct X S_C l mX10_feed 2 q_tI [.ref 0, .int a1, .int a2, .int a3, .int a4, .int a5] w (fX10_feed a1 a2 a3 a4 a5 w) := by
  refine q_intro (lv := [(0, .ref 0), (1, .int a1), (2, .int a2), (3, .int a3), (4, .int a4), (5, .int a5)]) (by decide +kernel) rfl (Nat.le_of_ble_eq_true rfl) rfl ?_
  refine q_aload_n 0 eX10_feed_0 rfl rfl ?_
  refine q_getG (v := 1) eX10_feed_1 fl_10_10 tC_0 rfl gC_0_0 ?_
  refine q_bipush eX10_feed_4 kbipush_20 ?_
  refine q_callVI (As := [.int 20]) (st := []) eX10_feed_6 cv_10_97 (kX9_hasRoom X l 20 w) tC_1 rfl (by decide) rfl rfl (Nat.le_of_ble_eq_true rfl) (by decide) (fun r1 w2 => ?_)
  refine q_if_ne (tgt := 14) eX10_feed_9 (by decide) (fun _ => ?_) (fun _ => ?_)
  · refine q_iconst eX10_feed_12 kiconst_m1 ?_
    exact q_ireturn eX10_feed_13 rfl
  · refine q_aload_n 0 eX10_feed_14 rfl rfl ?_
    refine q_getG (v := 1) eX10_feed_15 fl_10_10 tC_0 rfl gC_0_0 ?_
    refine q_iload_n 1 eX10_feed_18 rfl rfl ?_
    refine q_callVV (As := [.int a1]) (st := []) eX10_feed_19 cv_10_101 (kX9_addWord X l a1 w2) tC_1 rfl (by decide) rfl rfl (Nat.le_of_ble_eq_true rfl) (by decide) (fun r3 w4 => ?_)
    refine q_aload_n 0 eX10_feed_22 rfl rfl ?_
    refine q_getG (v := 1) eX10_feed_23 fl_10_10 tC_0 rfl gC_0_0 ?_
    refine q_iload_n 2 eX10_feed_26 rfl rfl ?_
    refine q_callVV (As := [.int a2]) (st := []) eX10_feed_27 cv_10_101 (kX9_addWord X l a2 w4) tC_1 rfl (by decide) rfl rfl (Nat.le_of_ble_eq_true rfl) (by decide) (fun r5 w6 => ?_)
    refine q_aload_n 0 eX10_feed_30 rfl rfl ?_
    refine q_getG (v := 1) eX10_feed_31 fl_10_10 tC_0 rfl gC_0_0 ?_
    refine q_iload_n 3 eX10_feed_34 rfl rfl ?_
    refine q_callVV (As := [.int a3]) (st := []) eX10_feed_35 cv_10_101 (kX9_addWord X l a3 w6) tC_1 rfl (by decide) rfl rfl (Nat.le_of_ble_eq_true rfl) (by decide) (fun r7 w8 => ?_)
    refine q_aload_n 0 eX10_feed_38 rfl rfl ?_
    refine q_getG (v := 1) eX10_feed_39 fl_10_10 tC_0 rfl gC_0_0 ?_
    refine q_iload 4 eX10_feed_42 rfl ?_
    refine q_callVV (As := [.int a4]) (st := []) eX10_feed_44 cv_10_101 (kX9_addWord X l a4 w8) tC_1 rfl (by decide) rfl rfl (Nat.le_of_ble_eq_true rfl) (by decide) (fun r9 w10 => ?_)
    refine q_aload_n 0 eX10_feed_47 rfl rfl ?_
    refine q_getG (v := 1) eX10_feed_48 fl_10_10 tC_0 rfl gC_0_0 ?_
    refine q_iload 5 eX10_feed_51 rfl ?_
    refine q_callVV (As := [.int a5]) (st := []) eX10_feed_53 cv_10_101 (kX9_addWord X l a5 w10) tC_1 rfl (by decide) rfl rfl (Nat.le_of_ble_eq_true rfl) (by decide) (fun r11 w12 => ?_)
    refine q_aload_n 0 eX10_feed_56 rfl rfl ?_
    refine q_getG (v := 1) eX10_feed_57 fl_10_10 tC_0 rfl gC_0_0 ?_
    refine q_callVI (As := []) (st := []) eX10_feed_60 cv_10_105 (kX9_size X l w12) tC_1 rfl (by decide) rfl rfl (Nat.le_of_ble_eq_true rfl) (by decide) (fun r13 w14 => ?_)
    exact q_ireturn eX10_feed_63 rfl
def fX10_back (a1 : Int32) (w : q_W) : Option (Int32 × q_W) :=
  q_b (fX9_cut a1 w) fun r1 w2 =>
  if r1 = 0 then
    some ((-1), w2)
  else
    q_b (fX9_size w2) fun r3 w4 =>
    some (r3, w4)
set_option maxHeartbeats 4000000 in
set_option maxRecDepth 100000 in
theorem kX10_back (X : q_X) (l : Launch) (a1 : Int32) (w : q_W) : q_Ct X S_C l mX10_back 1 q_tI [.ref 0, .int a1] w (fX10_back a1 w) := by
  refine q_intro (lv := [(0, .ref 0), (1, .int a1)]) (by decide +kernel) rfl (Nat.le_of_ble_eq_true rfl) rfl ?_
  refine q_aload_n 0 eX10_back_0 rfl rfl ?_
  refine q_getG (v := 1) eX10_back_1 fl_10_10 tC_0 rfl gC_0_0 ?_
  refine q_iload_n 1 eX10_back_4 rfl rfl ?_
  refine q_callVI (As := [.int a1]) (st := []) eX10_back_5 cv_10_109 (kX9_cut X l a1 w) tC_1 rfl (by decide) rfl rfl (Nat.le_of_ble_eq_true rfl) (by decide) (fun r1 w2 => ?_)
  refine q_if_eq (tgt := 21) eX10_back_8 (by decide) (fun _ => ?_) (fun _ => ?_)
  · refine q_iconst eX10_back_21 kiconst_m1 ?_
    exact q_ireturn eX10_back_22 rfl
  · refine q_aload_n 0 eX10_back_11 rfl rfl ?_
    refine q_getG (v := 1) eX10_back_12 fl_10_10 tC_0 rfl gC_0_0 ?_
    refine q_callVI (As := []) (st := []) eX10_back_15 cv_10_105 (kX9_size X l w2) tC_1 rfl (by decide) rfl rfl (Nat.le_of_ble_eq_true rfl) (by decide) (fun r3 w4 => ?_)
    refine q_goto (tgt := 22) eX10_back_18 (by decide) ?_
    exact q_ireturn eX10_back_22 rfl
def fX10_read_n57 (x1 : Int32) (w : q_W) : Option (Int32 × q_W) :=
  q_b (fX9_size w) fun r1 w2 =>
  q_b (fX9_cut r1 w2) fun r3 w4 =>
  some (x1, w4)
set_option maxHeartbeats 4000000 in
set_option maxRecDepth 100000 in
theorem jX10_read_n57 (X : q_X) (l : Launch) (x1 : Int32) (w : q_W) : q_J X S_C l mX10_read 57 q_tI 57 [(0, .ref 0), (1, .int x1)] [] w (fX10_read_n57 x1 w) := by
  refine q_aload_n 0 eX10_read_57 rfl rfl ?_
  refine q_getG (v := 1) eX10_read_58 fl_10_10 tC_0 rfl gC_0_0 ?_
  refine q_aload_n 0 eX10_read_61 rfl rfl ?_
  refine q_getG (v := 1) eX10_read_62 fl_10_10 tC_0 rfl gC_0_0 ?_
  refine q_callVI (As := []) (st := [.ref 1]) eX10_read_65 cv_10_105 (kX9_size X l w) tC_1 rfl (by decide) rfl rfl (Nat.le_of_ble_eq_true rfl) (by decide) (fun r1 w2 => ?_)
  refine q_callVI (As := [.int r1]) (st := []) eX10_read_68 cv_10_109 (kX9_cut X l r1 w2) tC_1 rfl (by decide) rfl rfl (Nat.le_of_ble_eq_true rfl) (by decide) (fun r3 w4 => ?_)
  refine q_pop eX10_read_71 rfl ?_
  refine q_iload_n 1 eX10_read_72 rfl rfl ?_
  exact q_ireturn eX10_read_73 rfl
def fX10_read_n32 (x1 : Int32) (s0 : Int32) (w : q_W) : Option (Int32 × q_W) :=
  q_lt (q_sI w 0 12 s0) fun w1 =>
  if x1 = 0 then
    if cC (w1.2.1 0 7) = 4 then
    if cC (w1.2.1 0 8) = 4 then
    q_lt (q_sR w1 0 7 (w1.2.1 0 8)) fun w4 =>
    q_lt (q_sR w4 0 8 (w1.2.1 0 7)) fun w5 =>
    fX10_read_n57 x1 w5
    else none
    else none
  else
    fX10_read_n57 x1 w1
set_option maxHeartbeats 4000000 in
set_option maxRecDepth 100000 in
theorem jX10_read_n32 (X : q_X) (l : Launch) (x1 : Int32) (s0 : Int32) (w : q_W) : q_J X S_C l mX10_read 57 q_tI 32 [(0, .ref 0), (1, .int x1)] [.int s0, .ref 0] w (fX10_read_n32 x1 s0 w) := by
  refine q_putI eX10_read_32 fp_10_90 tC_0 rfl ⟨rfl, rfl⟩ ?_
  refine q_ltW (fun w1 => ?_)
  refine q_iload_n 1 eX10_read_35 rfl rfl ?_
  refine q_if_ne (tgt := 57) eX10_read_36 (by decide) (fun _ => ?_) (fun _ => ?_)
  · refine q_aload_n 0 eX10_read_39 rfl rfl ?_
    refine q_getR eX10_read_40 fl_10_56 tC_0 rfl ?_
    refine q_ck (fun g2 => ?_)
    refine q_astore_n (lv' := [(2, .ref (w1.2.1 0 7)), (0, .ref 0), (1, .int x1)]) eX10_read_43 rfl (by decide) rfl ?_
    refine q_aload_n 1 eX10_read_44 rfl rfl ?_
    refine q_aload_n 1 eX10_read_45 rfl rfl ?_
    refine q_getR eX10_read_46 fl_10_60 tC_0 rfl ?_
    refine q_ck (fun g3 => ?_)
    refine q_putR eX10_read_49 fp_10_56 tC_0 rfl ⟨rfl, rfl⟩ ?_
    refine q_ltW (fun w4 => ?_)
    refine q_aload_n 1 eX10_read_52 rfl rfl ?_
    refine q_aload_n 0 eX10_read_53 rfl rfl ?_
    refine q_putR eX10_read_54 fp_10_60 tC_0 rfl ⟨rfl, rfl⟩ ?_
    refine q_ltW (fun w5 => ?_)
    exact q_sub [1, 2] rfl (jX10_read_n57 X l x1 w5)
  · exact q_sub [0, 1] rfl (jX10_read_n57 X l x1 w1)
def fX10_read (w : q_W) : Option (Int32 × q_W) :=
  if cC (w.2.1 0 8) = 4 then
  q_b (fX5_readInto (w.2.1 0 8) w) fun r2 w3 =>
  if r2 = 0 then
    fX10_read_n32 r2 (-1) w3
  else
    q_b (fX5_placeOfFault w3) fun r4 w5 =>
    fX10_read_n32 r2 r4 w5
  else none
set_option maxHeartbeats 4000000 in
set_option maxRecDepth 100000 in
theorem kX10_read (X : q_X) (l : Launch) (w : q_W) : q_Ct X S_C l mX10_read 57 q_tI [.ref 0] w (fX10_read w) := by
  refine q_intro (lv := [(0, .ref 0)]) (by decide +kernel) rfl (Nat.le_of_ble_eq_true rfl) rfl ?_
  refine q_aload_n 0 eX10_read_0 rfl rfl ?_
  refine q_getG (v := 23) eX10_read_1 fl_10_68 tC_0 rfl gC_0_9 ?_
  refine q_aload_n 0 eX10_read_4 rfl rfl ?_
  refine q_getR eX10_read_5 fl_10_60 tC_0 rfl ?_
  refine q_ck (fun g1 => ?_)
  refine q_aload_n 0 eX10_read_8 rfl rfl ?_
  refine q_getG (v := 1) eX10_read_9 fl_10_10 tC_0 rfl gC_0_0 ?_
  refine q_callVI (As := [.ref (w.2.1 0 8), .ref 1]) (st := []) eX10_read_12 cv_10_112 (kX5_readInto X l (w.2.1 0 8) w) tC_23 rfl (by decide) rfl rfl (Nat.le_of_ble_eq_true rfl) (by decide) (fun r2 w3 => ?_)
  refine q_istore_n (lv' := [(1, .int r2), (0, .ref 0)]) eX10_read_15 rfl (by decide) rfl ?_
  refine q_aload_n 1 eX10_read_16 rfl rfl ?_
  refine q_iload_n 0 eX10_read_17 rfl rfl ?_
  refine q_if_ne (tgt := 25) eX10_read_18 (by decide) (fun _ => ?_) (fun _ => ?_)
  · refine q_iconst eX10_read_21 kiconst_m1 ?_
    refine q_goto (tgt := 32) eX10_read_22 (by decide) ?_
    exact q_sub [1, 0] rfl (jX10_read_n32 X l r2 (-1) w3)
  · refine q_aload_n 1 eX10_read_25 rfl rfl ?_
    refine q_getG (v := 23) eX10_read_26 fl_10_68 tC_0 rfl gC_0_9 ?_
    refine q_callVI (As := []) (st := [.ref 0]) eX10_read_29 cv_10_116 (kX5_placeOfFault X l w3) tC_23 rfl (by decide) rfl rfl (Nat.le_of_ble_eq_true rfl) (by decide) (fun r4 w5 => ?_)
    exact q_sub [1, 0] rfl (jX10_read_n32 X l r2 r4 w5)
def fX10_place (w : q_W) : Option (Int32 × q_W) :=
  some ((w.1 0 12), w)
set_option maxHeartbeats 4000000 in
set_option maxRecDepth 100000 in
theorem kX10_place (X : q_X) (l : Launch) (w : q_W) : q_Ct X S_C l mX10_place 0 q_tI [.ref 0] w (fX10_place w) := by
  refine q_intro (lv := [(0, .ref 0)]) (by decide +kernel) rfl (Nat.le_of_ble_eq_true rfl) rfl ?_
  refine q_aload_n 0 eX10_place_0 rfl rfl ?_
  refine q_getI eX10_place_1 fl_10_90 tC_0 rfl ?_
  exact q_ireturn eX10_place_4 rfl
def fX10_put (a1 : Int32) (a2 : Int32) (a3 : Int32) (a4 : Int32) (a5 : Int32) (a6 : Int32) (w : q_W) : Option (Nat × q_W) :=
  if q_inb 0 6 then
  q_lt (q_sI w 22 (q_ix 0) a1) fun w1 =>
  if q_inb 1 6 then
  q_lt (q_sI w1 22 (q_ix 1) a2) fun w2 =>
  if q_inb 2 6 then
  q_lt (q_sI w2 22 (q_ix 2) a3) fun w3 =>
  if q_inb 3 6 then
  q_lt (q_sI w3 22 (q_ix 3) a4) fun w4 =>
  if q_inb 4 6 then
  q_lt (q_sI w4 22 (q_ix 4) a5) fun w5 =>
  if q_inb 5 6 then
  q_lt (q_sI w5 22 (q_ix 5) a6) fun w6 =>
  some (22, w6)
  else none
  else none
  else none
  else none
  else none
  else none
set_option maxHeartbeats 4000000 in
set_option maxRecDepth 100000 in
theorem kX10_put (X : q_X) (l : Launch) (a1 : Int32) (a2 : Int32) (a3 : Int32) (a4 : Int32) (a5 : Int32) (a6 : Int32) (w : q_W) : q_Ct X S_C l mX10_put 0 q_tR [.ref 0, .int a1, .int a2, .int a3, .int a4, .int a5, .int a6] w (fX10_put a1 a2 a3 a4 a5 a6 w) := by
  refine q_intro (lv := [(0, .ref 0), (1, .int a1), (2, .int a2), (3, .int a3), (4, .int a4), (5, .int a5), (6, .int a6)]) (by decide +kernel) rfl (Nat.le_of_ble_eq_true rfl) rfl ?_
  refine q_aload_n 0 eX10_put_0 rfl rfl ?_
  refine q_getG (v := 22) eX10_put_1 fl_10_49 tC_0 rfl gC_0_6 ?_
  refine q_iconst eX10_put_4 kiconst_0 ?_
  refine q_iload_n 1 eX10_put_5 rfl rfl ?_
  refine q_iast eX10_put_6 tC_22 nC_22 ?_
  refine q_ltW (fun w1 => ?_)
  refine q_aload_n 0 eX10_put_7 rfl rfl ?_
  refine q_getG (v := 22) eX10_put_8 fl_10_49 tC_0 rfl gC_0_6 ?_
  refine q_iconst eX10_put_11 kiconst_1 ?_
  refine q_iload_n 2 eX10_put_12 rfl rfl ?_
  refine q_iast eX10_put_13 tC_22 nC_22 ?_
  refine q_ltW (fun w2 => ?_)
  refine q_aload_n 0 eX10_put_14 rfl rfl ?_
  refine q_getG (v := 22) eX10_put_15 fl_10_49 tC_0 rfl gC_0_6 ?_
  refine q_iconst eX10_put_18 kiconst_2 ?_
  refine q_iload_n 3 eX10_put_19 rfl rfl ?_
  refine q_iast eX10_put_20 tC_22 nC_22 ?_
  refine q_ltW (fun w3 => ?_)
  refine q_aload_n 0 eX10_put_21 rfl rfl ?_
  refine q_getG (v := 22) eX10_put_22 fl_10_49 tC_0 rfl gC_0_6 ?_
  refine q_iconst eX10_put_25 kiconst_3 ?_
  refine q_iload 4 eX10_put_26 rfl ?_
  refine q_iast eX10_put_28 tC_22 nC_22 ?_
  refine q_ltW (fun w4 => ?_)
  refine q_aload_n 0 eX10_put_29 rfl rfl ?_
  refine q_getG (v := 22) eX10_put_30 fl_10_49 tC_0 rfl gC_0_6 ?_
  refine q_iconst eX10_put_33 kiconst_4 ?_
  refine q_iload 5 eX10_put_34 rfl ?_
  refine q_iast eX10_put_36 tC_22 nC_22 ?_
  refine q_ltW (fun w5 => ?_)
  refine q_aload_n 0 eX10_put_37 rfl rfl ?_
  refine q_getG (v := 22) eX10_put_38 fl_10_49 tC_0 rfl gC_0_6 ?_
  refine q_iconst eX10_put_41 kiconst_5 ?_
  refine q_iload 6 eX10_put_42 rfl ?_
  refine q_iast eX10_put_44 tC_22 nC_22 ?_
  refine q_ltW (fun w6 => ?_)
  refine q_aload_n 0 eX10_put_45 rfl rfl ?_
  refine q_getG (v := 22) eX10_put_46 fl_10_49 tC_0 rfl gC_0_6 ?_
  exact q_areturn eX10_put_49 rfl (Or.inr ⟨_, rfl⟩)
def fX10_drop (a1 : Int32) (a2 : Int32) (a3 : Int32) (a4 : Int32) (w : q_W) : Option (Int32 × q_W) :=
  q_b (fX10_put a1 a2 a3 a4 0 0 w) fun r1 w2 =>
  if cC r1 = 100 then
  q_b (fX2_tell 0 r1 w2) fun r4 w5 =>
  some (r4, w5)
  else none
set_option maxHeartbeats 4000000 in
set_option maxRecDepth 100000 in
theorem kX10_drop (X : q_X) (l : Launch) (a1 : Int32) (a2 : Int32) (a3 : Int32) (a4 : Int32) (w : q_W) : q_Ct X S_C l mX10_drop 3 q_tI [.ref 0, .int a1, .int a2, .int a3, .int a4] w (fX10_drop a1 a2 a3 a4 w) := by
  refine q_intro (lv := [(0, .ref 0), (1, .int a1), (2, .int a2), (3, .int a3), (4, .int a4)]) (by decide +kernel) rfl (Nat.le_of_ble_eq_true rfl) rfl ?_
  refine q_aload_n 0 eX10_drop_0 rfl rfl ?_
  refine q_getG (v := 3) eX10_drop_1 fl_10_19 tC_0 rfl gC_0_1 ?_
  refine q_iconst eX10_drop_4 kiconst_0 ?_
  refine q_aload_n 0 eX10_drop_5 rfl rfl ?_
  refine q_iload_n 1 eX10_drop_6 rfl rfl ?_
  refine q_iload_n 2 eX10_drop_7 rfl rfl ?_
  refine q_iload_n 3 eX10_drop_8 rfl rfl ?_
  refine q_iload 4 eX10_drop_9 rfl ?_
  refine q_iconst eX10_drop_11 kiconst_0 ?_
  refine q_iconst eX10_drop_12 kiconst_0 ?_
  refine q_callVR (As := [.int a1, .int a2, .int a3, .int a4, .int 0, .int 0]) (st := [.int 0, .ref 3]) eX10_drop_13 cv_10_119 (kX10_put X l a1 a2 a3 a4 0 0 w) tC_0 rfl (by decide) rfl rfl (Nat.le_of_ble_eq_true rfl) (by decide) (fun r1 w2 => ?_)
  refine q_ck (fun g3 => ?_)
  refine q_callVI (As := [.int 0, .ref r1]) (st := []) eX10_drop_16 cv_10_123 (kX2_tell X l 0 r1 w2) tC_3 rfl (by decide) rfl rfl (Nat.le_of_ble_eq_true rfl) (by decide) (fun r4 w5 => ?_)
  exact q_ireturn eX10_drop_19 rfl
def fX10_line (a1 : Int32) (a2 : Int32) (a3 : Int32) (a4 : Int32) (w : q_W) : Option (Int32 × q_W) :=
  q_b (fX10_put a1 a2 a3 a4 0 0 w) fun r1 w2 =>
  if cC r1 = 100 then
  q_b (fX2_tell 1 r1 w2) fun r4 w5 =>
  some (r4, w5)
  else none
set_option maxHeartbeats 4000000 in
set_option maxRecDepth 100000 in
theorem kX10_line (X : q_X) (l : Launch) (a1 : Int32) (a2 : Int32) (a3 : Int32) (a4 : Int32) (w : q_W) : q_Ct X S_C l mX10_line 3 q_tI [.ref 0, .int a1, .int a2, .int a3, .int a4] w (fX10_line a1 a2 a3 a4 w) := by
  refine q_intro (lv := [(0, .ref 0), (1, .int a1), (2, .int a2), (3, .int a3), (4, .int a4)]) (by decide +kernel) rfl (Nat.le_of_ble_eq_true rfl) rfl ?_
  refine q_aload_n 0 eX10_line_0 rfl rfl ?_
  refine q_getG (v := 3) eX10_line_1 fl_10_19 tC_0 rfl gC_0_1 ?_
  refine q_iconst eX10_line_4 kiconst_1 ?_
  refine q_aload_n 0 eX10_line_5 rfl rfl ?_
  refine q_iload_n 1 eX10_line_6 rfl rfl ?_
  refine q_iload_n 2 eX10_line_7 rfl rfl ?_
  refine q_iload_n 3 eX10_line_8 rfl rfl ?_
  refine q_iload 4 eX10_line_9 rfl ?_
  refine q_iconst eX10_line_11 kiconst_0 ?_
  refine q_iconst eX10_line_12 kiconst_0 ?_
  refine q_callVR (As := [.int a1, .int a2, .int a3, .int a4, .int 0, .int 0]) (st := [.int 1, .ref 3]) eX10_line_13 cv_10_119 (kX10_put X l a1 a2 a3 a4 0 0 w) tC_0 rfl (by decide) rfl rfl (Nat.le_of_ble_eq_true rfl) (by decide) (fun r1 w2 => ?_)
  refine q_ck (fun g3 => ?_)
  refine q_callVI (As := [.int 1, .ref r1]) (st := []) eX10_line_16 cv_10_123 (kX2_tell X l 1 r1 w2) tC_3 rfl (by decide) rfl rfl (Nat.le_of_ble_eq_true rfl) (by decide) (fun r4 w5 => ?_)
  exact q_ireturn eX10_line_19 rfl
def fX10_comb (a1 : Int32) (a2 : Int32) (a3 : Int32) (a4 : Int32) (a5 : Int32) (a6 : Int32) (w : q_W) : Option (Int32 × q_W) :=
  q_b (fX10_put a1 a2 a3 a4 a5 a6 w) fun r1 w2 =>
  if cC r1 = 100 then
  q_b (fX2_tell 2 r1 w2) fun r4 w5 =>
  some (r4, w5)
  else none
set_option maxHeartbeats 4000000 in
set_option maxRecDepth 100000 in
theorem kX10_comb (X : q_X) (l : Launch) (a1 : Int32) (a2 : Int32) (a3 : Int32) (a4 : Int32) (a5 : Int32) (a6 : Int32) (w : q_W) : q_Ct X S_C l mX10_comb 3 q_tI [.ref 0, .int a1, .int a2, .int a3, .int a4, .int a5, .int a6] w (fX10_comb a1 a2 a3 a4 a5 a6 w) := by
  refine q_intro (lv := [(0, .ref 0), (1, .int a1), (2, .int a2), (3, .int a3), (4, .int a4), (5, .int a5), (6, .int a6)]) (by decide +kernel) rfl (Nat.le_of_ble_eq_true rfl) rfl ?_
  refine q_aload_n 0 eX10_comb_0 rfl rfl ?_
  refine q_getG (v := 3) eX10_comb_1 fl_10_19 tC_0 rfl gC_0_1 ?_
  refine q_iconst eX10_comb_4 kiconst_2 ?_
  refine q_aload_n 0 eX10_comb_5 rfl rfl ?_
  refine q_iload_n 1 eX10_comb_6 rfl rfl ?_
  refine q_iload_n 2 eX10_comb_7 rfl rfl ?_
  refine q_iload_n 3 eX10_comb_8 rfl rfl ?_
  refine q_iload 4 eX10_comb_9 rfl ?_
  refine q_iload 5 eX10_comb_11 rfl ?_
  refine q_iload 6 eX10_comb_13 rfl ?_
  refine q_callVR (As := [.int a1, .int a2, .int a3, .int a4, .int a5, .int a6]) (st := [.int 2, .ref 3]) eX10_comb_15 cv_10_119 (kX10_put X l a1 a2 a3 a4 a5 a6 w) tC_0 rfl (by decide) rfl rfl (Nat.le_of_ble_eq_true rfl) (by decide) (fun r1 w2 => ?_)
  refine q_ck (fun g3 => ?_)
  refine q_callVI (As := [.int 2, .ref r1]) (st := []) eX10_comb_18 cv_10_123 (kX2_tell X l 2 r1 w2) tC_3 rfl (by decide) rfl rfl (Nat.le_of_ble_eq_true rfl) (by decide) (fun r4 w5 => ?_)
  exact q_ireturn eX10_comb_21 rfl
def fX10_wave (a1 : Int32) (a2 : Int32) (a3 : Int32) (w : q_W) : Option (Int32 × q_W) :=
  q_b (fX10_put a1 a2 a3 0 0 0 w) fun r1 w2 =>
  if cC r1 = 100 then
  q_b (fX2_tell 3 r1 w2) fun r4 w5 =>
  some (r4, w5)
  else none
set_option maxHeartbeats 4000000 in
set_option maxRecDepth 100000 in
theorem kX10_wave (X : q_X) (l : Launch) (a1 : Int32) (a2 : Int32) (a3 : Int32) (w : q_W) : q_Ct X S_C l mX10_wave 3 q_tI [.ref 0, .int a1, .int a2, .int a3] w (fX10_wave a1 a2 a3 w) := by
  refine q_intro (lv := [(0, .ref 0), (1, .int a1), (2, .int a2), (3, .int a3)]) (by decide +kernel) rfl (Nat.le_of_ble_eq_true rfl) rfl ?_
  refine q_aload_n 0 eX10_wave_0 rfl rfl ?_
  refine q_getG (v := 3) eX10_wave_1 fl_10_19 tC_0 rfl gC_0_1 ?_
  refine q_iconst eX10_wave_4 kiconst_3 ?_
  refine q_aload_n 0 eX10_wave_5 rfl rfl ?_
  refine q_iload_n 1 eX10_wave_6 rfl rfl ?_
  refine q_iload_n 2 eX10_wave_7 rfl rfl ?_
  refine q_iload_n 3 eX10_wave_8 rfl rfl ?_
  refine q_iconst eX10_wave_9 kiconst_0 ?_
  refine q_iconst eX10_wave_10 kiconst_0 ?_
  refine q_iconst eX10_wave_11 kiconst_0 ?_
  refine q_callVR (As := [.int a1, .int a2, .int a3, .int 0, .int 0, .int 0]) (st := [.int 3, .ref 3]) eX10_wave_12 cv_10_119 (kX10_put X l a1 a2 a3 0 0 0 w) tC_0 rfl (by decide) rfl rfl (Nat.le_of_ble_eq_true rfl) (by decide) (fun r1 w2 => ?_)
  refine q_ck (fun g3 => ?_)
  refine q_callVI (As := [.int 3, .ref r1]) (st := []) eX10_wave_15 cv_10_123 (kX2_tell X l 3 r1 w2) tC_3 rfl (by decide) rfl rfl (Nat.le_of_ble_eq_true rfl) (by decide) (fun r4 w5 => ?_)
  exact q_ireturn eX10_wave_18 rfl
def fX10_lay (a1 : Int32) (w : q_W) : Option (Int32 × q_W) :=
  q_b (fX10_put a1 0 0 0 0 0 w) fun r1 w2 =>
  if cC r1 = 100 then
  q_b (fX2_tell 4 r1 w2) fun r4 w5 =>
  some (r4, w5)
  else none
set_option maxHeartbeats 4000000 in
set_option maxRecDepth 100000 in
theorem kX10_lay (X : q_X) (l : Launch) (a1 : Int32) (w : q_W) : q_Ct X S_C l mX10_lay 3 q_tI [.ref 0, .int a1] w (fX10_lay a1 w) := by
  refine q_intro (lv := [(0, .ref 0), (1, .int a1)]) (by decide +kernel) rfl (Nat.le_of_ble_eq_true rfl) rfl ?_
  refine q_aload_n 0 eX10_lay_0 rfl rfl ?_
  refine q_getG (v := 3) eX10_lay_1 fl_10_19 tC_0 rfl gC_0_1 ?_
  refine q_iconst eX10_lay_4 kiconst_4 ?_
  refine q_aload_n 0 eX10_lay_5 rfl rfl ?_
  refine q_iload_n 1 eX10_lay_6 rfl rfl ?_
  refine q_iconst eX10_lay_7 kiconst_0 ?_
  refine q_iconst eX10_lay_8 kiconst_0 ?_
  refine q_iconst eX10_lay_9 kiconst_0 ?_
  refine q_iconst eX10_lay_10 kiconst_0 ?_
  refine q_iconst eX10_lay_11 kiconst_0 ?_
  refine q_callVR (As := [.int a1, .int 0, .int 0, .int 0, .int 0, .int 0]) (st := [.int 4, .ref 3]) eX10_lay_12 cv_10_119 (kX10_put X l a1 0 0 0 0 0 w) tC_0 rfl (by decide) rfl rfl (Nat.le_of_ble_eq_true rfl) (by decide) (fun r1 w2 => ?_)
  refine q_ck (fun g3 => ?_)
  refine q_callVI (As := [.int 4, .ref r1]) (st := []) eX10_lay_15 cv_10_123 (kX2_tell X l 4 r1 w2) tC_3 rfl (by decide) rfl rfl (Nat.le_of_ble_eq_true rfl) (by decide) (fun r4 w5 => ?_)
  exact q_ireturn eX10_lay_18 rfl
def fX10_strike (a1 : Int32) (w : q_W) : Option (Int32 × q_W) :=
  q_b (fX10_put a1 0 0 0 0 0 w) fun r1 w2 =>
  if cC r1 = 100 then
  q_b (fX2_tellStrike r1 w2) fun r4 w5 =>
  some (r4, w5)
  else none
set_option maxHeartbeats 4000000 in
set_option maxRecDepth 100000 in
theorem kX10_strike (X : q_X) (l : Launch) (a1 : Int32) (w : q_W) : q_Ct X S_C l mX10_strike 3 q_tI [.ref 0, .int a1] w (fX10_strike a1 w) := by
  refine q_intro (lv := [(0, .ref 0), (1, .int a1)]) (by decide +kernel) rfl (Nat.le_of_ble_eq_true rfl) rfl ?_
  refine q_aload_n 0 eX10_strike_0 rfl rfl ?_
  refine q_getG (v := 3) eX10_strike_1 fl_10_19 tC_0 rfl gC_0_1 ?_
  refine q_aload_n 0 eX10_strike_4 rfl rfl ?_
  refine q_iload_n 1 eX10_strike_5 rfl rfl ?_
  refine q_iconst eX10_strike_6 kiconst_0 ?_
  refine q_iconst eX10_strike_7 kiconst_0 ?_
  refine q_iconst eX10_strike_8 kiconst_0 ?_
  refine q_iconst eX10_strike_9 kiconst_0 ?_
  refine q_iconst eX10_strike_10 kiconst_0 ?_
  refine q_callVR (As := [.int a1, .int 0, .int 0, .int 0, .int 0, .int 0]) (st := [.ref 3]) eX10_strike_11 cv_10_119 (kX10_put X l a1 0 0 0 0 0 w) tC_0 rfl (by decide) rfl rfl (Nat.le_of_ble_eq_true rfl) (by decide) (fun r1 w2 => ?_)
  refine q_ck (fun g3 => ?_)
  refine q_callVI (As := [.ref r1]) (st := []) eX10_strike_14 cv_10_127 (kX2_tellStrike X l r1 w2) tC_3 rfl (by decide) rfl rfl (Nat.le_of_ble_eq_true rfl) (by decide) (fun r4 w5 => ?_)
  exact q_ireturn eX10_strike_17 rfl
def fX10_run (a1 : Int32) (a2 : Int32) (a3 : Int32) (w : q_W) : Option (Int32 × q_W) :=
  if cC (w.2.1 0 7) = 4 then
  q_b (fX4_has (w.2.1 0 7) a1 w) fun r2 w3 =>
  if r2 = 0 then
    some ((-1), w3)
  else
    q_b (fX2_roomLeft w3) fun r4 w5 =>
    q_b (fX6_clear 9 r4 w5) fun r6 w7 =>
    if cC (w7.2.1 0 7) = 4 then
    q_b (fX1_perform (w7.2.1 0 7) a1 a2 a3 9 w7) fun r9 w10 =>
    if r9 = 0 then
      q_b (fX2_tellAll 9 w10) fun r11 w12 =>
      q_b (fX6_size 9 w12) fun r13 w14 =>
      some (r13, w14)
    else
      q_lt (q_sI w10 0 13 r9) fun w15 =>
      q_b (fX1_deedPlace w15) fun r16 w17 =>
      q_lt (q_sI w17 0 14 r16) fun w18 =>
      some ((-2), w18)
    else none
  else none
set_option maxHeartbeats 4000000 in
set_option maxRecDepth 100000 in
theorem kX10_run (X : q_X) (l : Launch) (a1 : Int32) (a2 : Int32) (a3 : Int32) (w : q_W) : q_Ct X S_C l mX10_run 5 q_tI [.ref 0, .int a1, .int a2, .int a3] w (fX10_run a1 a2 a3 w) := by
  refine q_intro (lv := [(0, .ref 0), (1, .int a1), (2, .int a2), (3, .int a3)]) (by decide +kernel) rfl (Nat.le_of_ble_eq_true rfl) rfl ?_
  refine q_aload_n 0 eX10_run_0 rfl rfl ?_
  refine q_getR eX10_run_1 fl_10_56 tC_0 rfl ?_
  refine q_ck (fun g1 => ?_)
  refine q_iload_n 1 eX10_run_4 rfl rfl ?_
  refine q_callVI (As := [.int a1]) (st := []) eX10_run_5 cv_10_131 (kX4_has X l (w.2.1 0 7) a1 w) g1 rfl (by decide) rfl rfl (Nat.le_of_ble_eq_true rfl) (by decide) (fun r2 w3 => ?_)
  refine q_if_ne (tgt := 13) eX10_run_8 (by decide) (fun _ => ?_) (fun _ => ?_)
  · refine q_iconst eX10_run_11 kiconst_m1 ?_
    exact q_ireturn eX10_run_12 rfl
  · refine q_aload_n 0 eX10_run_13 rfl rfl ?_
    refine q_getG (v := 9) eX10_run_14 fl_10_26 tC_0 rfl gC_0_2 ?_
    refine q_aload_n 0 eX10_run_17 rfl rfl ?_
    refine q_getG (v := 3) eX10_run_18 fl_10_19 tC_0 rfl gC_0_1 ?_
    refine q_callVI (As := []) (st := [.ref 9]) eX10_run_21 cv_10_134 (kX2_roomLeft X l w3) tC_3 rfl (by decide) rfl rfl (Nat.le_of_ble_eq_true rfl) (by decide) (fun r4 w5 => ?_)
    refine q_callVV (As := [.int r4]) (st := []) eX10_run_24 cv_10_137 (kX6_clear X l 9 r4 w5) tC_9 rfl (by decide) rfl rfl (Nat.le_of_ble_eq_true rfl) (by decide) (fun r6 w7 => ?_)
    refine q_aload_n 0 eX10_run_27 rfl rfl ?_
    refine q_getG (v := 31) eX10_run_28 fl_10_77 tC_0 rfl gC_0_10 ?_
    refine q_aload_n 0 eX10_run_31 rfl rfl ?_
    refine q_getR eX10_run_32 fl_10_56 tC_0 rfl ?_
    refine q_ck (fun g8 => ?_)
    refine q_iload_n 1 eX10_run_35 rfl rfl ?_
    refine q_iload_n 2 eX10_run_36 rfl rfl ?_
    refine q_iload_n 3 eX10_run_37 rfl rfl ?_
    refine q_aload_n 0 eX10_run_38 rfl rfl ?_
    refine q_getG (v := 9) eX10_run_39 fl_10_26 tC_0 rfl gC_0_2 ?_
    refine q_callVI (As := [.ref (w7.2.1 0 7), .int a1, .int a2, .int a3, .ref 9]) (st := []) eX10_run_42 cv_10_140 (kX1_perform X l (w7.2.1 0 7) a1 a2 a3 9 w7) tC_31 rfl (by decide) rfl rfl (Nat.le_of_ble_eq_true rfl) (by decide) (fun r9 w10 => ?_)
    refine q_istore (lv' := [(4, .int r9), (0, .ref 0), (1, .int a1), (2, .int a2), (3, .int a3)]) eX10_run_45 (by decide) rfl ?_
    refine q_iload 0 eX10_run_47 rfl ?_
    refine q_if_eq (tgt := 72) eX10_run_49 (by decide) (fun _ => ?_) (fun _ => ?_)
    · refine q_aload_n 1 eX10_run_72 rfl rfl ?_
      refine q_getG (v := 3) eX10_run_73 fl_10_19 tC_0 rfl gC_0_1 ?_
      refine q_aload_n 1 eX10_run_76 rfl rfl ?_
      refine q_getG (v := 9) eX10_run_77 fl_10_26 tC_0 rfl gC_0_2 ?_
      refine q_callVV (As := [.ref 9]) (st := []) eX10_run_80 cv_10_150 (kX2_tellAll X l 9 w10) tC_3 rfl (by decide) rfl rfl (Nat.le_of_ble_eq_true rfl) (by decide) (fun r11 w12 => ?_)
      refine q_aload_n 1 eX10_run_83 rfl rfl ?_
      refine q_getG (v := 9) eX10_run_84 fl_10_26 tC_0 rfl gC_0_2 ?_
      refine q_callVI (As := []) (st := []) eX10_run_87 cv_10_153 (kX6_size X l 9 w12) tC_9 rfl (by decide) rfl rfl (Nat.le_of_ble_eq_true rfl) (by decide) (fun r13 w14 => ?_)
      exact q_ireturn eX10_run_90 rfl
    · refine q_aload_n 1 eX10_run_52 rfl rfl ?_
      refine q_iload 0 eX10_run_53 rfl ?_
      refine q_putI eX10_run_55 fp_10_144 tC_0 rfl ⟨rfl, rfl⟩ ?_
      refine q_ltW (fun w15 => ?_)
      refine q_aload_n 1 eX10_run_58 rfl rfl ?_
      refine q_aload_n 1 eX10_run_59 rfl rfl ?_
      refine q_getG (v := 31) eX10_run_60 fl_10_77 tC_0 rfl gC_0_10 ?_
      refine q_callVI (As := []) (st := [.ref 0]) eX10_run_63 cv_10_147 (kX1_deedPlace X l w15) tC_31 rfl (by decide) rfl rfl (Nat.le_of_ble_eq_true rfl) (by decide) (fun r16 w17 => ?_)
      refine q_putI eX10_run_66 fp_10_94 tC_0 rfl ⟨rfl, rfl⟩ ?_
      refine q_ltW (fun w18 => ?_)
      refine q_bipush eX10_run_69 kbipush_m2 ?_
      exact q_ireturn eX10_run_71 rfl
def fX10_broke (w : q_W) : Option (Int32 × q_W) :=
  some ((w.1 0 13), w)
set_option maxHeartbeats 4000000 in
set_option maxRecDepth 100000 in
theorem kX10_broke (X : q_X) (l : Launch) (w : q_W) : q_Ct X S_C l mX10_broke 0 q_tI [.ref 0] w (fX10_broke w) := by
  refine q_intro (lv := [(0, .ref 0)]) (by decide +kernel) rfl (Nat.le_of_ble_eq_true rfl) rfl ?_
  refine q_aload_n 0 eX10_broke_0 rfl rfl ?_
  refine q_getI eX10_broke_1 fl_10_144 tC_0 rfl ?_
  exact q_ireturn eX10_broke_4 rfl
def fX10_where (w : q_W) : Option (Int32 × q_W) :=
  some ((w.1 0 14), w)
set_option maxHeartbeats 4000000 in
set_option maxRecDepth 100000 in
theorem kX10_where (X : q_X) (l : Launch) (w : q_W) : q_Ct X S_C l mX10_where 0 q_tI [.ref 0] w (fX10_where w) := by
  refine q_intro (lv := [(0, .ref 0)]) (by decide +kernel) rfl (Nat.le_of_ble_eq_true rfl) rfl ?_
  refine q_aload_n 0 eX10_where_0 rfl rfl ?_
  refine q_getI eX10_where_1 fl_10_94 tC_0 rfl ?_
  exact q_ireturn eX10_where_4 rfl
def fX10_parameters (a1 : Int32) (w : q_W) : Option (Int32 × q_W) :=
  if cC (w.2.1 0 7) = 4 then
  q_b (fX4_has (w.2.1 0 7) a1 w) fun r2 w3 =>
  if r2 = 0 then
    some ((-1), w3)
  else
    if cC (w3.2.1 0 7) = 4 then
    q_b (fX4_needs (w3.2.1 0 7) a1 w3) fun r5 w6 =>
    some (r5, w6)
    else none
  else none
set_option maxHeartbeats 4000000 in
set_option maxRecDepth 100000 in
theorem kX10_parameters (X : q_X) (l : Launch) (a1 : Int32) (w : q_W) : q_Ct X S_C l mX10_parameters 2 q_tI [.ref 0, .int a1] w (fX10_parameters a1 w) := by
  refine q_intro (lv := [(0, .ref 0), (1, .int a1)]) (by decide +kernel) rfl (Nat.le_of_ble_eq_true rfl) rfl ?_
  refine q_aload_n 0 eX10_parameters_0 rfl rfl ?_
  refine q_getR eX10_parameters_1 fl_10_56 tC_0 rfl ?_
  refine q_ck (fun g1 => ?_)
  refine q_iload_n 1 eX10_parameters_4 rfl rfl ?_
  refine q_callVI (As := [.int a1]) (st := []) eX10_parameters_5 cv_10_131 (kX4_has X l (w.2.1 0 7) a1 w) g1 rfl (by decide) rfl rfl (Nat.le_of_ble_eq_true rfl) (by decide) (fun r2 w3 => ?_)
  refine q_if_eq (tgt := 22) eX10_parameters_8 (by decide) (fun _ => ?_) (fun _ => ?_)
  · refine q_iconst eX10_parameters_22 kiconst_m1 ?_
    exact q_ireturn eX10_parameters_23 rfl
  · refine q_aload_n 0 eX10_parameters_11 rfl rfl ?_
    refine q_getR eX10_parameters_12 fl_10_56 tC_0 rfl ?_
    refine q_ck (fun g4 => ?_)
    refine q_iload_n 1 eX10_parameters_15 rfl rfl ?_
    refine q_callVI (As := [.int a1]) (st := []) eX10_parameters_16 cv_10_154 (kX4_needs X l (w3.2.1 0 7) a1 w3) g4 rfl (by decide) rfl rfl (Nat.le_of_ble_eq_true rfl) (by decide) (fun r5 w6 => ?_)
    refine q_goto (tgt := 23) eX10_parameters_19 (by decide) ?_
    exact q_ireturn eX10_parameters_23 rfl
def fX10_kind (a1 : Int32) (w : q_W) : Option (Int32 × q_W) :=
  q_b (fX2_has a1 w) fun r1 w2 =>
  if r1 = 0 then
    some ((-1), w2)
  else
    q_b (fX2_facts w2) fun r3 w4 =>
    if cC r3 = 6 then
    q_b (fX6_kindOf r3 a1 w4) fun r6 w7 =>
    some (r6, w7)
    else none
set_option maxHeartbeats 4000000 in
set_option maxRecDepth 100000 in
theorem kX10_kind (X : q_X) (l : Launch) (a1 : Int32) (w : q_W) : q_Ct X S_C l mX10_kind 2 q_tI [.ref 0, .int a1] w (fX10_kind a1 w) := by
  refine q_intro (lv := [(0, .ref 0), (1, .int a1)]) (by decide +kernel) rfl (Nat.le_of_ble_eq_true rfl) rfl ?_
  refine q_aload_n 0 eX10_kind_0 rfl rfl ?_
  refine q_getG (v := 3) eX10_kind_1 fl_10_19 tC_0 rfl gC_0_1 ?_
  refine q_iload_n 1 eX10_kind_4 rfl rfl ?_
  refine q_callVI (As := [.int a1]) (st := []) eX10_kind_5 cv_10_158 (kX2_has X l a1 w) tC_3 rfl (by decide) rfl rfl (Nat.le_of_ble_eq_true rfl) (by decide) (fun r1 w2 => ?_)
  refine q_if_eq (tgt := 25) eX10_kind_8 (by decide) (fun _ => ?_) (fun _ => ?_)
  · refine q_iconst eX10_kind_25 kiconst_m1 ?_
    exact q_ireturn eX10_kind_26 rfl
  · refine q_aload_n 0 eX10_kind_11 rfl rfl ?_
    refine q_getG (v := 3) eX10_kind_12 fl_10_19 tC_0 rfl gC_0_1 ?_
    refine q_callVR (As := []) (st := []) eX10_kind_15 cv_10_159 (kX2_facts X l w2) tC_3 rfl (by decide) rfl rfl (Nat.le_of_ble_eq_true rfl) (by decide) (fun r3 w4 => ?_)
    refine q_ck (fun g5 => ?_)
    refine q_iload_n 1 eX10_kind_18 rfl rfl ?_
    refine q_callVI (As := [.int a1]) (st := []) eX10_kind_19 cv_10_163 (kX6_kindOf X l r3 a1 w4) g5 rfl (by decide) rfl rfl (Nat.le_of_ble_eq_true rfl) (by decide) (fun r6 w7 => ?_)
    refine q_goto (tgt := 26) eX10_kind_22 (by decide) ?_
    exact q_ireturn eX10_kind_26 rfl
def fX10_number_n38 (x1 : Int32) (x2 : Int32) (s0 : Int32) (w : q_W) : Option (Int32 × q_W) :=
  if s0 = 0 then
    some ((-1), w)
  else
    q_b (fX2_facts w) fun r1 w2 =>
    if cC r1 = 6 then
    q_b (fX6_numberOf r1 x1 x2 w2) fun r4 w5 =>
    some (r4, w5)
    else none
set_option maxHeartbeats 4000000 in
set_option maxRecDepth 100000 in
theorem jX10_number_n38 (X : q_X) (l : Launch) (x1 : Int32) (x2 : Int32) (s0 : Int32) (w : q_W) : q_J X S_C l mX10_number 2 q_tI 38 [(0, .ref 0), (1, .int x1), (2, .int x2)] [.int s0] w (fX10_number_n38 x1 x2 s0 w) := by
  refine q_istore_n (lv' := [(3, .int s0), (0, .ref 0), (1, .int x1), (2, .int x2)]) eX10_number_38 rfl (by decide) rfl ?_
  refine q_iload_n 0 eX10_number_39 rfl rfl ?_
  refine q_if_eq (tgt := 58) eX10_number_40 (by decide) (fun _ => ?_) (fun _ => ?_)
  · refine q_iconst eX10_number_58 kiconst_m1 ?_
    exact q_ireturn eX10_number_59 rfl
  · refine q_aload_n 1 eX10_number_43 rfl rfl ?_
    refine q_getG (v := 3) eX10_number_44 fl_10_19 tC_0 rfl gC_0_1 ?_
    refine q_callVR (As := []) (st := []) eX10_number_47 cv_10_159 (kX2_facts X l w) tC_3 rfl (by decide) rfl rfl (Nat.le_of_ble_eq_true rfl) (by decide) (fun r1 w2 => ?_)
    refine q_ck (fun g3 => ?_)
    refine q_iload_n 2 eX10_number_50 rfl rfl ?_
    refine q_iload_n 3 eX10_number_51 rfl rfl ?_
    refine q_callVI (As := [.int x1, .int x2]) (st := []) eX10_number_52 cv_10_169 (kX6_numberOf X l r1 x1 x2 w2) g3 rfl (by decide) rfl rfl (Nat.le_of_ble_eq_true rfl) (by decide) (fun r4 w5 => ?_)
    refine q_goto (tgt := 59) eX10_number_55 (by decide) ?_
    exact q_ireturn eX10_number_59 rfl
def fX10_number_n37 (x1 : Int32) (x2 : Int32) (w : q_W) : Option (Int32 × q_W) :=
  fX10_number_n38 x1 x2 0 w
set_option maxHeartbeats 4000000 in
set_option maxRecDepth 100000 in
theorem jX10_number_n37 (X : q_X) (l : Launch) (x1 : Int32) (x2 : Int32) (w : q_W) : q_J X S_C l mX10_number 2 q_tI 37 [(0, .ref 0), (1, .int x1), (2, .int x2)] [] w (fX10_number_n37 x1 x2 w) := by
  refine q_iconst eX10_number_37 kiconst_0 ?_
  exact q_sub [0, 1, 2] rfl (jX10_number_n38 X l x1 x2 0 w)
def fX10_number (a1 : Int32) (a2 : Int32) (w : q_W) : Option (Int32 × q_W) :=
  q_b (fX2_has a1 w) fun r1 w2 =>
  if r1 = 0 then
    fX10_number_n37 a1 a2 w2
  else
    if a2 < 0 then
      fX10_number_n37 a1 a2 w2
    else
      q_b (fX2_facts w2) fun r3 w4 =>
      if cC r3 = 6 then
      q_b (fX6_kindOf r3 a1 w4) fun r6 w7 =>
      q_b (fX6_numbersOf r6 w7) fun r8 w9 =>
      if r8 ≤ a2 then
        fX10_number_n37 a1 a2 w9
      else
        fX10_number_n38 a1 a2 1 w9
      else none
set_option maxHeartbeats 4000000 in
set_option maxRecDepth 100000 in
theorem kX10_number (X : q_X) (l : Launch) (a1 : Int32) (a2 : Int32) (w : q_W) : q_Ct X S_C l mX10_number 2 q_tI [.ref 0, .int a1, .int a2] w (fX10_number a1 a2 w) := by
  refine q_intro (lv := [(0, .ref 0), (1, .int a1), (2, .int a2)]) (by decide +kernel) rfl (Nat.le_of_ble_eq_true rfl) rfl ?_
  refine q_aload_n 0 eX10_number_0 rfl rfl ?_
  refine q_getG (v := 3) eX10_number_1 fl_10_19 tC_0 rfl gC_0_1 ?_
  refine q_iload_n 1 eX10_number_4 rfl rfl ?_
  refine q_callVI (As := [.int a1]) (st := []) eX10_number_5 cv_10_158 (kX2_has X l a1 w) tC_3 rfl (by decide) rfl rfl (Nat.le_of_ble_eq_true rfl) (by decide) (fun r1 w2 => ?_)
  refine q_if_eq (tgt := 37) eX10_number_8 (by decide) (fun _ => ?_) (fun _ => ?_)
  · exact q_sub [0, 1, 2] rfl (jX10_number_n37 X l a1 a2 w2)
  · refine q_iload_n 2 eX10_number_11 rfl rfl ?_
    refine q_if_lt (tgt := 37) eX10_number_12 (by decide) (fun _ => ?_) (fun _ => ?_)
    · exact q_sub [0, 1, 2] rfl (jX10_number_n37 X l a1 a2 w2)
    · refine q_iload_n 2 eX10_number_15 rfl rfl ?_
      refine q_aload_n 0 eX10_number_16 rfl rfl ?_
      refine q_getG (v := 3) eX10_number_17 fl_10_19 tC_0 rfl gC_0_1 ?_
      refine q_callVR (As := []) (st := [.int a2]) eX10_number_20 cv_10_159 (kX2_facts X l w2) tC_3 rfl (by decide) rfl rfl (Nat.le_of_ble_eq_true rfl) (by decide) (fun r3 w4 => ?_)
      refine q_ck (fun g5 => ?_)
      refine q_iload_n 1 eX10_number_23 rfl rfl ?_
      refine q_callVI (As := [.int a1]) (st := [.int a2]) eX10_number_24 cv_10_163 (kX6_kindOf X l r3 a1 w4) g5 rfl (by decide) rfl rfl (Nat.le_of_ble_eq_true rfl) (by decide) (fun r6 w7 => ?_)
      refine q_callSI (As := [.int r6]) (st := [.int a2]) eX10_number_27 cv_10_166 (kX6_numbersOf X l r6 w7) rfl rfl (Nat.le_of_ble_eq_true rfl) (by decide) (fun r8 w9 => ?_)
      refine q_icmp_ge (tgt := 37) eX10_number_30 (by decide) (fun _ => ?_) (fun _ => ?_)
      · exact q_sub [0, 1, 2] rfl (jX10_number_n37 X l a1 a2 w9)
      · refine q_iconst eX10_number_33 kiconst_1 ?_
        refine q_goto (tgt := 38) eX10_number_34 (by decide) ?_
        exact q_sub [0, 1, 2] rfl (jX10_number_n38 X l a1 a2 1 w9)
def fX10_struck (a1 : Int32) (a2 : Int32) (w : q_W) : Option (Int32 × q_W) :=
  q_b (fX2_knows a2 w) fun r1 w2 =>
  if r1 = 0 then
    some ((-1), w2)
  else
    if a1 < 0 then
      some ((-1), w2)
    else
      if a1 < a2 then
        q_b (fX2_isOut a1 a2 w2) fun r3 w4 =>
        if r3 = 0 then
          some (0, w4)
        else
          some (1, w4)
      else
        some ((-1), w2)
set_option maxHeartbeats 4000000 in
set_option maxRecDepth 100000 in
theorem kX10_struck (X : q_X) (l : Launch) (a1 : Int32) (a2 : Int32) (w : q_W) : q_Ct X S_C l mX10_struck 3 q_tI [.ref 0, .int a1, .int a2] w (fX10_struck a1 a2 w) := by
  refine q_intro (lv := [(0, .ref 0), (1, .int a1), (2, .int a2)]) (by decide +kernel) rfl (Nat.le_of_ble_eq_true rfl) rfl ?_
  refine q_aload_n 0 eX10_struck_0 rfl rfl ?_
  refine q_getG (v := 3) eX10_struck_1 fl_10_19 tC_0 rfl gC_0_1 ?_
  refine q_iload_n 2 eX10_struck_4 rfl rfl ?_
  refine q_callVI (As := [.int a2]) (st := []) eX10_struck_5 cv_10_173 (kX2_knows X l a2 w) tC_3 rfl (by decide) rfl rfl (Nat.le_of_ble_eq_true rfl) (by decide) (fun r1 w2 => ?_)
  refine q_if_eq (tgt := 20) eX10_struck_8 (by decide) (fun _ => ?_) (fun _ => ?_)
  · refine q_iconst eX10_struck_20 kiconst_m1 ?_
    exact q_ireturn eX10_struck_21 rfl
  · refine q_iload_n 1 eX10_struck_11 rfl rfl ?_
    refine q_if_lt (tgt := 20) eX10_struck_12 (by decide) (fun _ => ?_) (fun _ => ?_)
    · refine q_iconst eX10_struck_20 kiconst_m1 ?_
      exact q_ireturn eX10_struck_21 rfl
    · refine q_iload_n 1 eX10_struck_15 rfl rfl ?_
      refine q_iload_n 2 eX10_struck_16 rfl rfl ?_
      refine q_icmp_lt (tgt := 22) eX10_struck_17 (by decide) (fun _ => ?_) (fun _ => ?_)
      · refine q_aload_n 0 eX10_struck_22 rfl rfl ?_
        refine q_getG (v := 3) eX10_struck_23 fl_10_19 tC_0 rfl gC_0_1 ?_
        refine q_iload_n 1 eX10_struck_26 rfl rfl ?_
        refine q_iload_n 2 eX10_struck_27 rfl rfl ?_
        refine q_callVI (As := [.int a1, .int a2]) (st := []) eX10_struck_28 cv_10_176 (kX2_isOut X l a1 a2 w2) tC_3 rfl (by decide) rfl rfl (Nat.le_of_ble_eq_true rfl) (by decide) (fun r3 w4 => ?_)
        refine q_if_eq (tgt := 38) eX10_struck_31 (by decide) (fun _ => ?_) (fun _ => ?_)
        · refine q_iconst eX10_struck_38 kiconst_0 ?_
          exact q_ireturn eX10_struck_39 rfl
        · refine q_iconst eX10_struck_34 kiconst_1 ?_
          refine q_goto (tgt := 39) eX10_struck_35 (by decide) ?_
          exact q_ireturn eX10_struck_39 rfl
      · refine q_iconst eX10_struck_20 kiconst_m1 ?_
        exact q_ireturn eX10_struck_21 rfl
def fX10_floatBath (a1 : Int32) (a2 : Int32) (a3 : Int32) (w : q_W) : Option (Int32 × q_W) :=
  q_b (fX0_isPoint a1 a2 w) fun r1 w2 =>
  if r1 = 0 then
    some (0, w2)
  else
    q_b (fX2_knows a3 w2) fun r3 w4 =>
    if r3 = 0 then
      some (0, w4)
    else
      q_b (fX2_laysKnown a3 w4) fun r5 w6 =>
      q_b (fX2_pickStrokes a3 r5 w6) fun r7 w8 =>
      some (1, w8)
set_option maxHeartbeats 4000000 in
set_option maxRecDepth 100000 in
theorem kX10_floatBath (X : q_X) (l : Launch) (a1 : Int32) (a2 : Int32) (a3 : Int32) (w : q_W) : q_Ct X S_C l mX10_floatBath 3 q_tI [.ref 0, .int a1, .int a2, .int a3] w (fX10_floatBath a1 a2 a3 w) := by
  refine q_intro (lv := [(0, .ref 0), (1, .int a1), (2, .int a2), (3, .int a3)]) (by decide +kernel) rfl (Nat.le_of_ble_eq_true rfl) rfl ?_
  refine q_iload_n 1 eX10_floatBath_0 rfl rfl ?_
  refine q_iload_n 2 eX10_floatBath_1 rfl rfl ?_
  refine q_callSI (As := [.int a1, .int a2]) (st := []) eX10_floatBath_2 cv_10_265 (kX0_isPoint X l a1 a2 w) rfl rfl (Nat.le_of_ble_eq_true rfl) (by decide) (fun r1 w2 => ?_)
  refine q_if_eq (tgt := 19) eX10_floatBath_5 (by decide) (fun _ => ?_) (fun _ => ?_)
  · refine q_iconst eX10_floatBath_19 kiconst_0 ?_
    exact q_zret eX10_floatBath_20 rfl rfl
  · refine q_aload_n 0 eX10_floatBath_8 rfl rfl ?_
    refine q_getG (v := 3) eX10_floatBath_9 fl_10_19 tC_0 rfl gC_0_1 ?_
    refine q_iload_n 3 eX10_floatBath_12 rfl rfl ?_
    refine q_callVI (As := [.int a3]) (st := []) eX10_floatBath_13 cv_10_173 (kX2_knows X l a3 w2) tC_3 rfl (by decide) rfl rfl (Nat.le_of_ble_eq_true rfl) (by decide) (fun r3 w4 => ?_)
    refine q_if_ne (tgt := 21) eX10_floatBath_16 (by decide) (fun _ => ?_) (fun _ => ?_)
    · refine q_iconst eX10_floatBath_19 kiconst_0 ?_
      exact q_zret eX10_floatBath_20 rfl rfl
    · refine q_aload_n 0 eX10_floatBath_21 rfl rfl ?_
      refine q_getG (v := 3) eX10_floatBath_22 fl_10_19 tC_0 rfl gC_0_1 ?_
      refine q_aload_n 0 eX10_floatBath_25 rfl rfl ?_
      refine q_getG (v := 12) eX10_floatBath_26 fl_10_35 tC_0 rfl gC_0_3 ?_
      refine q_iload_n 3 eX10_floatBath_29 rfl rfl ?_
      refine q_aload_n 0 eX10_floatBath_30 rfl rfl ?_
      refine q_getG (v := 3) eX10_floatBath_31 fl_10_19 tC_0 rfl gC_0_1 ?_
      refine q_iload_n 3 eX10_floatBath_34 rfl rfl ?_
      refine q_callVI (As := [.int a3]) (st := [.int a3, .ref 12, .ref 3]) eX10_floatBath_35 cv_10_204 (kX2_laysKnown X l a3 w4) tC_3 rfl (by decide) rfl rfl (Nat.le_of_ble_eq_true rfl) (by decide) (fun r5 w6 => ?_)
      refine q_callVI (As := [.ref 12, .int a3, .int r5]) (st := []) eX10_floatBath_38 cv_10_260 (kX2_pickStrokes X l a3 r5 w6) tC_3 rfl (by decide) rfl rfl (Nat.le_of_ble_eq_true rfl) (by decide) (fun r7 w8 => ?_)
      refine q_pop eX10_floatBath_41 rfl ?_
      refine q_iconst eX10_floatBath_42 kiconst_1 ?_
      exact q_zret eX10_floatBath_43 rfl rfl
def fX10_colour (a1 : Int32) (a2 : Int32) (a3 : Int32) (w : q_W) : Option (Int32 × q_W) :=
  q_b (fX10_floatBath a1 a2 a3 w) fun r1 w2 =>
  if r1 = 0 then
    some ((-1), w2)
  else
    q_b (fX0_colourOf a1 a2 w2) fun r3 w4 =>
    some (r3, w4)
set_option maxHeartbeats 4000000 in
set_option maxRecDepth 100000 in
theorem kX10_colour (X : q_X) (l : Launch) (a1 : Int32) (a2 : Int32) (a3 : Int32) (w : q_W) : q_Ct X S_C l mX10_colour 4 q_tI [.ref 0, .int a1, .int a2, .int a3] w (fX10_colour a1 a2 a3 w) := by
  refine q_intro (lv := [(0, .ref 0), (1, .int a1), (2, .int a2), (3, .int a3)]) (by decide +kernel) rfl (Nat.le_of_ble_eq_true rfl) rfl ?_
  refine q_aload_n 0 eX10_colour_0 rfl rfl ?_
  refine q_iload_n 1 eX10_colour_1 rfl rfl ?_
  refine q_iload_n 2 eX10_colour_2 rfl rfl ?_
  refine q_iload_n 3 eX10_colour_3 rfl rfl ?_
  refine q_callVI (As := [.int a1, .int a2, .int a3]) (st := []) eX10_colour_4 cv_10_180 (kX10_floatBath X l a1 a2 a3 w) tC_0 rfl (by decide) rfl rfl (Nat.le_of_ble_eq_true rfl) (by decide) (fun r1 w2 => ?_)
  refine q_if_eq (tgt := 22) eX10_colour_7 (by decide) (fun _ => ?_) (fun _ => ?_)
  · refine q_iconst eX10_colour_22 kiconst_m1 ?_
    exact q_ireturn eX10_colour_23 rfl
  · refine q_aload_n 0 eX10_colour_10 rfl rfl ?_
    refine q_getG (v := 12) eX10_colour_11 fl_10_35 tC_0 rfl gC_0_3 ?_
    refine q_iload_n 1 eX10_colour_14 rfl rfl ?_
    refine q_iload_n 2 eX10_colour_15 rfl rfl ?_
    refine q_callVI (As := [.int a1, .int a2]) (st := []) eX10_colour_16 cv_10_184 (kX0_colourOf X l a1 a2 w2) tC_12 rfl (by decide) rfl rfl (Nat.le_of_ble_eq_true rfl) (by decide) (fun r3 w4 => ?_)
    refine q_goto (tgt := 23) eX10_colour_19 (by decide) ?_
    exact q_ireturn eX10_colour_23 rfl
def fX10_from (a1 : Int32) (a2 : Int32) (a3 : Int32) (a4 : Int32) (w : q_W) : Option (Int32 × q_W) :=
  if a4 < 0 then
    some ((-1), w)
  else
    if 2 < a4 then
      some ((-1), w)
    else
      q_b (fX10_floatBath a1 a2 a3 w) fun r1 w2 =>
      if r1 = 0 then
        some ((-1), w2)
      else
        q_b (fX0_goBack a1 a2 w2) fun r3 w4 =>
        if a4 = 0 then
          if r3 < 0 then
            some ((-1), w4)
          else
            some (r3, w4)
        else
          if r3 = (-2) then
            some ((-1), w4)
          else
            if a4 = 1 then
              q_b (fX0_reachedX w4) fun r5 w6 =>
              some (r5, w6)
            else
              q_b (fX0_reachedY w4) fun r7 w8 =>
              some (r7, w8)
set_option maxHeartbeats 4000000 in
set_option maxRecDepth 100000 in
theorem kX10_from (X : q_X) (l : Launch) (a1 : Int32) (a2 : Int32) (a3 : Int32) (a4 : Int32) (w : q_W) : q_Ct X S_C l mX10_from 4 q_tI [.ref 0, .int a1, .int a2, .int a3, .int a4] w (fX10_from a1 a2 a3 a4 w) := by
  refine q_intro (lv := [(0, .ref 0), (1, .int a1), (2, .int a2), (3, .int a3), (4, .int a4)]) (by decide +kernel) rfl (Nat.le_of_ble_eq_true rfl) rfl ?_
  refine q_iload 4 eX10_from_0 rfl ?_
  refine q_if_lt (tgt := 21) eX10_from_2 (by decide) (fun _ => ?_) (fun _ => ?_)
  · refine q_iconst eX10_from_21 kiconst_m1 ?_
    exact q_ireturn eX10_from_22 rfl
  · refine q_iload 4 eX10_from_5 rfl ?_
    refine q_iconst eX10_from_7 kiconst_2 ?_
    refine q_icmp_gt (tgt := 21) eX10_from_8 (by decide) (fun _ => ?_) (fun _ => ?_)
    · refine q_iconst eX10_from_21 kiconst_m1 ?_
      exact q_ireturn eX10_from_22 rfl
    · refine q_aload_n 0 eX10_from_11 rfl rfl ?_
      refine q_iload_n 1 eX10_from_12 rfl rfl ?_
      refine q_iload_n 2 eX10_from_13 rfl rfl ?_
      refine q_iload_n 3 eX10_from_14 rfl rfl ?_
      refine q_callVI (As := [.int a1, .int a2, .int a3]) (st := []) eX10_from_15 cv_10_180 (kX10_floatBath X l a1 a2 a3 w) tC_0 rfl (by decide) rfl rfl (Nat.le_of_ble_eq_true rfl) (by decide) (fun r1 w2 => ?_)
      refine q_if_ne (tgt := 23) eX10_from_18 (by decide) (fun _ => ?_) (fun _ => ?_)
      · refine q_iconst eX10_from_21 kiconst_m1 ?_
        exact q_ireturn eX10_from_22 rfl
      · refine q_aload_n 0 eX10_from_23 rfl rfl ?_
        refine q_getG (v := 12) eX10_from_24 fl_10_35 tC_0 rfl gC_0_3 ?_
        refine q_iload_n 1 eX10_from_27 rfl rfl ?_
        refine q_iload_n 2 eX10_from_28 rfl rfl ?_
        refine q_callVI (As := [.int a1, .int a2]) (st := []) eX10_from_29 cv_10_187 (kX0_goBack X l a1 a2 w2) tC_12 rfl (by decide) rfl rfl (Nat.le_of_ble_eq_true rfl) (by decide) (fun r3 w4 => ?_)
        refine q_istore (lv' := [(5, .int r3), (0, .ref 0), (1, .int a1), (2, .int a2), (3, .int a3), (4, .int a4)]) eX10_from_32 (by decide) rfl ?_
        refine q_iload 5 eX10_from_34 rfl ?_
        refine q_if_ne (tgt := 51) eX10_from_36 (by decide) (fun _ => ?_) (fun _ => ?_)
        · refine q_iload 0 eX10_from_39 rfl ?_
          refine q_if_lt (tgt := 49) eX10_from_41 (by decide) (fun _ => ?_) (fun _ => ?_)
          · refine q_iconst eX10_from_49 kiconst_m1 ?_
            exact q_ireturn eX10_from_50 rfl
          · refine q_iload 0 eX10_from_44 rfl ?_
            refine q_goto (tgt := 50) eX10_from_46 (by decide) ?_
            exact q_ireturn eX10_from_50 rfl
        · refine q_iload 0 eX10_from_51 rfl ?_
          refine q_bipush eX10_from_53 kbipush_m2 ?_
          refine q_icmp_ne (tgt := 60) eX10_from_55 (by decide) (fun _ => ?_) (fun _ => ?_)
          · refine q_iconst eX10_from_58 kiconst_m1 ?_
            exact q_ireturn eX10_from_59 rfl
          · refine q_iload 5 eX10_from_60 rfl ?_
            refine q_iconst eX10_from_62 kiconst_1 ?_
            refine q_icmp_ne (tgt := 76) eX10_from_63 (by decide) (fun _ => ?_) (fun _ => ?_)
            · refine q_aload_n 1 eX10_from_66 rfl rfl ?_
              refine q_getG (v := 12) eX10_from_67 fl_10_35 tC_0 rfl gC_0_3 ?_
              refine q_callVI (As := []) (st := []) eX10_from_70 cv_10_190 (kX0_reachedX X l w4) tC_12 rfl (by decide) rfl rfl (Nat.le_of_ble_eq_true rfl) (by decide) (fun r5 w6 => ?_)
              refine q_goto (tgt := 83) eX10_from_73 (by decide) ?_
              exact q_ireturn eX10_from_83 rfl
            · refine q_aload_n 1 eX10_from_76 rfl rfl ?_
              refine q_getG (v := 12) eX10_from_77 fl_10_35 tC_0 rfl gC_0_3 ?_
              refine q_callVI (As := []) (st := []) eX10_from_80 cv_10_193 (kX0_reachedY X l w4) tC_12 rfl (by decide) rfl rfl (Nat.le_of_ble_eq_true rfl) (by decide) (fun r7 w8 => ?_)
              exact q_ireturn eX10_from_83 rfl
def fX10_to (a1 : Int32) (a2 : Int32) (a3 : Int32) (a4 : Int32) (w : q_W) : Option (Int32 × q_W) :=
  if a4 < 0 then
    some ((-1), w)
  else
    if 1 < a4 then
      some ((-1), w)
    else
      q_b (fX10_floatBath a1 a2 a3 w) fun r1 w2 =>
      if r1 = 0 then
        some ((-1), w2)
      else
        q_b (fX0_goForth a1 a2 w2) fun r3 w4 =>
        if r3 = 0 then
          some ((-1), w4)
        else
          if a4 = 0 then
            q_b (fX0_reachedX w4) fun r5 w6 =>
            some (r5, w6)
          else
            q_b (fX0_reachedY w4) fun r7 w8 =>
            some (r7, w8)
set_option maxHeartbeats 4000000 in
set_option maxRecDepth 100000 in
theorem kX10_to (X : q_X) (l : Launch) (a1 : Int32) (a2 : Int32) (a3 : Int32) (a4 : Int32) (w : q_W) : q_Ct X S_C l mX10_to 4 q_tI [.ref 0, .int a1, .int a2, .int a3, .int a4] w (fX10_to a1 a2 a3 a4 w) := by
  refine q_intro (lv := [(0, .ref 0), (1, .int a1), (2, .int a2), (3, .int a3), (4, .int a4)]) (by decide +kernel) rfl (Nat.le_of_ble_eq_true rfl) rfl ?_
  refine q_iload 4 eX10_to_0 rfl ?_
  refine q_if_lt (tgt := 33) eX10_to_2 (by decide) (fun _ => ?_) (fun _ => ?_)
  · refine q_iconst eX10_to_33 kiconst_m1 ?_
    exact q_ireturn eX10_to_34 rfl
  · refine q_iload 4 eX10_to_5 rfl ?_
    refine q_iconst eX10_to_7 kiconst_1 ?_
    refine q_icmp_gt (tgt := 33) eX10_to_8 (by decide) (fun _ => ?_) (fun _ => ?_)
    · refine q_iconst eX10_to_33 kiconst_m1 ?_
      exact q_ireturn eX10_to_34 rfl
    · refine q_aload_n 0 eX10_to_11 rfl rfl ?_
      refine q_iload_n 1 eX10_to_12 rfl rfl ?_
      refine q_iload_n 2 eX10_to_13 rfl rfl ?_
      refine q_iload_n 3 eX10_to_14 rfl rfl ?_
      refine q_callVI (As := [.int a1, .int a2, .int a3]) (st := []) eX10_to_15 cv_10_180 (kX10_floatBath X l a1 a2 a3 w) tC_0 rfl (by decide) rfl rfl (Nat.le_of_ble_eq_true rfl) (by decide) (fun r1 w2 => ?_)
      refine q_if_eq (tgt := 33) eX10_to_18 (by decide) (fun _ => ?_) (fun _ => ?_)
      · refine q_iconst eX10_to_33 kiconst_m1 ?_
        exact q_ireturn eX10_to_34 rfl
      · refine q_aload_n 0 eX10_to_21 rfl rfl ?_
        refine q_getG (v := 12) eX10_to_22 fl_10_35 tC_0 rfl gC_0_3 ?_
        refine q_iload_n 1 eX10_to_25 rfl rfl ?_
        refine q_iload_n 2 eX10_to_26 rfl rfl ?_
        refine q_callVI (As := [.int a1, .int a2]) (st := []) eX10_to_27 cv_10_196 (kX0_goForth X l a1 a2 w2) tC_12 rfl (by decide) rfl rfl (Nat.le_of_ble_eq_true rfl) (by decide) (fun r3 w4 => ?_)
        refine q_if_ne (tgt := 35) eX10_to_30 (by decide) (fun _ => ?_) (fun _ => ?_)
        · refine q_iconst eX10_to_33 kiconst_m1 ?_
          exact q_ireturn eX10_to_34 rfl
        · refine q_iload 4 eX10_to_35 rfl ?_
          refine q_if_ne (tgt := 50) eX10_to_37 (by decide) (fun _ => ?_) (fun _ => ?_)
          · refine q_aload_n 0 eX10_to_40 rfl rfl ?_
            refine q_getG (v := 12) eX10_to_41 fl_10_35 tC_0 rfl gC_0_3 ?_
            refine q_callVI (As := []) (st := []) eX10_to_44 cv_10_190 (kX0_reachedX X l w4) tC_12 rfl (by decide) rfl rfl (Nat.le_of_ble_eq_true rfl) (by decide) (fun r5 w6 => ?_)
            refine q_goto (tgt := 57) eX10_to_47 (by decide) ?_
            exact q_ireturn eX10_to_57 rfl
          · refine q_aload_n 0 eX10_to_50 rfl rfl ?_
            refine q_getG (v := 12) eX10_to_51 fl_10_35 tC_0 rfl gC_0_3 ?_
            refine q_callVI (As := []) (st := []) eX10_to_54 cv_10_193 (kX0_reachedY X l w4) tC_12 rfl (by decide) rfl rfl (Nat.le_of_ble_eq_true rfl) (by decide) (fun r7 w8 => ?_)
            exact q_ireturn eX10_to_57 rfl
def fX10_home (a1 : Int32) (a2 : Int32) (a3 : Int32) (w : q_W) : Option (Int32 × q_W) :=
  q_b (fX10_floatBath a1 a2 a3 w) fun r1 w2 =>
  if r1 = 0 then
    some ((-1), w2)
  else
    q_b (fX0_goForth a1 a2 w2) fun r3 w4 =>
    if r3 = 0 then
      some ((-2), w4)
    else
      q_b (fX0_reachedX w4) fun r5 w6 =>
      q_b (fX0_reachedY w6) fun r7 w8 =>
      q_b (fX0_goBack r5 r7 w8) fun r9 w10 =>
      if r9 = (-1) then
        q_b (fX0_reachedX w10) fun r11 w12 =>
        q_b (fX0_reachedY w12) fun r13 w14 =>
        some (((q_iabs (r11 - a1)) + (q_iabs (r13 - a2))), w14)
      else
        some ((-2), w10)
set_option maxHeartbeats 4000000 in
set_option maxRecDepth 100000 in
theorem kX10_home (X : q_X) (l : Launch) (a1 : Int32) (a2 : Int32) (a3 : Int32) (w : q_W) : q_Ct X S_C l mX10_home 4 q_tI [.ref 0, .int a1, .int a2, .int a3] w (fX10_home a1 a2 a3 w) := by
  refine q_intro (lv := [(0, .ref 0), (1, .int a1), (2, .int a2), (3, .int a3)]) (by decide +kernel) rfl (Nat.le_of_ble_eq_true rfl) rfl ?_
  refine q_aload_n 0 eX10_home_0 rfl rfl ?_
  refine q_iload_n 1 eX10_home_1 rfl rfl ?_
  refine q_iload_n 2 eX10_home_2 rfl rfl ?_
  refine q_iload_n 3 eX10_home_3 rfl rfl ?_
  refine q_callVI (As := [.int a1, .int a2, .int a3]) (st := []) eX10_home_4 cv_10_180 (kX10_floatBath X l a1 a2 a3 w) tC_0 rfl (by decide) rfl rfl (Nat.le_of_ble_eq_true rfl) (by decide) (fun r1 w2 => ?_)
  refine q_if_ne (tgt := 12) eX10_home_7 (by decide) (fun _ => ?_) (fun _ => ?_)
  · refine q_iconst eX10_home_10 kiconst_m1 ?_
    exact q_ireturn eX10_home_11 rfl
  · refine q_aload_n 0 eX10_home_12 rfl rfl ?_
    refine q_getG (v := 12) eX10_home_13 fl_10_35 tC_0 rfl gC_0_3 ?_
    refine q_iload_n 1 eX10_home_16 rfl rfl ?_
    refine q_iload_n 2 eX10_home_17 rfl rfl ?_
    refine q_callVI (As := [.int a1, .int a2]) (st := []) eX10_home_18 cv_10_196 (kX0_goForth X l a1 a2 w2) tC_12 rfl (by decide) rfl rfl (Nat.le_of_ble_eq_true rfl) (by decide) (fun r3 w4 => ?_)
    refine q_if_eq (tgt := 49) eX10_home_21 (by decide) (fun _ => ?_) (fun _ => ?_)
    · refine q_bipush eX10_home_49 kbipush_m2 ?_
      exact q_ireturn eX10_home_51 rfl
    · refine q_aload_n 0 eX10_home_24 rfl rfl ?_
      refine q_getG (v := 12) eX10_home_25 fl_10_35 tC_0 rfl gC_0_3 ?_
      refine q_aload_n 0 eX10_home_28 rfl rfl ?_
      refine q_getG (v := 12) eX10_home_29 fl_10_35 tC_0 rfl gC_0_3 ?_
      refine q_callVI (As := []) (st := [.ref 12]) eX10_home_32 cv_10_190 (kX0_reachedX X l w4) tC_12 rfl (by decide) rfl rfl (Nat.le_of_ble_eq_true rfl) (by decide) (fun r5 w6 => ?_)
      refine q_aload_n 0 eX10_home_35 rfl rfl ?_
      refine q_getG (v := 12) eX10_home_36 fl_10_35 tC_0 rfl gC_0_3 ?_
      refine q_callVI (As := []) (st := [.int r5, .ref 12]) eX10_home_39 cv_10_193 (kX0_reachedY X l w6) tC_12 rfl (by decide) rfl rfl (Nat.le_of_ble_eq_true rfl) (by decide) (fun r7 w8 => ?_)
      refine q_callVI (As := [.int r5, .int r7]) (st := []) eX10_home_42 cv_10_187 (kX0_goBack X l r5 r7 w8) tC_12 rfl (by decide) rfl rfl (Nat.le_of_ble_eq_true rfl) (by decide) (fun r9 w10 => ?_)
      refine q_iconst eX10_home_45 kiconst_m1 ?_
      refine q_icmp_eq (tgt := 52) eX10_home_46 (by decide) (fun _ => ?_) (fun _ => ?_)
      · refine q_aload_n 0 eX10_home_52 rfl rfl ?_
        refine q_getG (v := 12) eX10_home_53 fl_10_35 tC_0 rfl gC_0_3 ?_
        refine q_callVI (As := []) (st := []) eX10_home_56 cv_10_190 (kX0_reachedX X l w10) tC_12 rfl (by decide) rfl rfl (Nat.le_of_ble_eq_true rfl) (by decide) (fun r11 w12 => ?_)
        refine q_iload_n 1 eX10_home_59 rfl rfl ?_
        refine q_isub eX10_home_60 ?_
        refine q_mabs eX10_home_61 cv_10_199 (Nat.le_of_ble_eq_true rfl) (by decide) ?_
        refine q_aload_n 0 eX10_home_64 rfl rfl ?_
        refine q_getG (v := 12) eX10_home_65 fl_10_35 tC_0 rfl gC_0_3 ?_
        refine q_callVI (As := []) (st := [.int (q_iabs (r11 - a1))]) eX10_home_68 cv_10_193 (kX0_reachedY X l w12) tC_12 rfl (by decide) rfl rfl (Nat.le_of_ble_eq_true rfl) (by decide) (fun r13 w14 => ?_)
        refine q_iload_n 2 eX10_home_71 rfl rfl ?_
        refine q_isub eX10_home_72 ?_
        refine q_mabs eX10_home_73 cv_10_199 (Nat.le_of_ble_eq_true rfl) (by decide) ?_
        refine q_iadd eX10_home_76 ?_
        exact q_ireturn eX10_home_77 rfl
      · refine q_bipush eX10_home_49 kbipush_m2 ?_
        exact q_ireturn eX10_home_51 rfl
def fX10_sheets (a1 : Int32) (w : q_W) : Option (Int32 × q_W) :=
  q_b (fX2_knows a1 w) fun r1 w2 =>
  if r1 = 0 then
    some ((-1), w2)
  else
    q_b (fX2_laysKnown a1 w2) fun r3 w4 =>
    some (r3, w4)
set_option maxHeartbeats 4000000 in
set_option maxRecDepth 100000 in
theorem kX10_sheets (X : q_X) (l : Launch) (a1 : Int32) (w : q_W) : q_Ct X S_C l mX10_sheets 3 q_tI [.ref 0, .int a1] w (fX10_sheets a1 w) := by
  refine q_intro (lv := [(0, .ref 0), (1, .int a1)]) (by decide +kernel) rfl (Nat.le_of_ble_eq_true rfl) rfl ?_
  refine q_aload_n 0 eX10_sheets_0 rfl rfl ?_
  refine q_getG (v := 3) eX10_sheets_1 fl_10_19 tC_0 rfl gC_0_1 ?_
  refine q_iload_n 1 eX10_sheets_4 rfl rfl ?_
  refine q_callVI (As := [.int a1]) (st := []) eX10_sheets_5 cv_10_173 (kX2_knows X l a1 w) tC_3 rfl (by decide) rfl rfl (Nat.le_of_ble_eq_true rfl) (by decide) (fun r1 w2 => ?_)
  refine q_if_eq (tgt := 22) eX10_sheets_8 (by decide) (fun _ => ?_) (fun _ => ?_)
  · refine q_iconst eX10_sheets_22 kiconst_m1 ?_
    exact q_ireturn eX10_sheets_23 rfl
  · refine q_aload_n 0 eX10_sheets_11 rfl rfl ?_
    refine q_getG (v := 3) eX10_sheets_12 fl_10_19 tC_0 rfl gC_0_1 ?_
    refine q_iload_n 1 eX10_sheets_15 rfl rfl ?_
    refine q_callVI (As := [.int a1]) (st := []) eX10_sheets_16 cv_10_204 (kX2_laysKnown X l a1 w2) tC_3 rfl (by decide) rfl rfl (Nat.le_of_ble_eq_true rfl) (by decide) (fun r3 w4 => ?_)
    refine q_goto (tgt := 23) eX10_sheets_19 (by decide) ?_
    exact q_ireturn eX10_sheets_23 rfl
def fX10_takeSheet (q1 : Nat) (a2 : Int32) (a3 : Int32) (w : q_W) : Option (Int32 × q_W) :=
  if cC q1 = 8 then
  q_b (fX2_knows a3 w) fun r1 w2 =>
  if r1 = 0 then
    some (0, w2)
  else
    if a2 < 0 then
      some (0, w2)
    else
      q_b (fX2_laysKnown a3 w2) fun r3 w4 =>
      if a2 < r3 then
        q_b (fX8_holds q1 a2 a3 w4) fun r5 w6 =>
        if r5 = 0 then
          q_b (fX2_pickStrokes a3 a2 w6) fun r7 w8 =>
          q_b (fX2_facts w8) fun r9 w10 =>
          if cC r9 = 6 then
          q_b (fX6_numberOf r9 r7 0 w10) fun r12 w13 =>
          q_b (fX8_fill q1 r12 w13) fun r14 w15 =>
          q_b (fX8_keepAs q1 a2 a3 w15) fun r16 w17 =>
          some (1, w17)
          else none
        else
          some (1, w6)
      else
        some (0, w4)
  else none
set_option maxHeartbeats 4000000 in
set_option maxRecDepth 100000 in
theorem kX10_takeSheet (X : q_X) (l : Launch) (q1 : Nat) (a2 : Int32) (a3 : Int32) (w : q_W) : q_Ct X S_C l mX10_takeSheet 5 q_tI [.ref 0, .ref q1, .int a2, .int a3] w (fX10_takeSheet q1 a2 a3 w) := by
  refine q_intro (lv := [(0, .ref 0), (1, .ref q1), (2, .int a2), (3, .int a3)]) (by decide +kernel) rfl (Nat.le_of_ble_eq_true rfl) rfl ?_
  refine q_ck (fun h1 => ?_)
  refine q_aload_n 0 eX10_takeSheet_0 rfl rfl ?_
  refine q_getG (v := 3) eX10_takeSheet_1 fl_10_19 tC_0 rfl gC_0_1 ?_
  refine q_iload_n 3 eX10_takeSheet_4 rfl rfl ?_
  refine q_callVI (As := [.int a3]) (st := []) eX10_takeSheet_5 cv_10_173 (kX2_knows X l a3 w) tC_3 rfl (by decide) rfl rfl (Nat.le_of_ble_eq_true rfl) (by decide) (fun r1 w2 => ?_)
  refine q_if_eq (tgt := 27) eX10_takeSheet_8 (by decide) (fun _ => ?_) (fun _ => ?_)
  · refine q_iconst eX10_takeSheet_27 kiconst_0 ?_
    exact q_zret eX10_takeSheet_28 rfl rfl
  · refine q_iload_n 2 eX10_takeSheet_11 rfl rfl ?_
    refine q_if_lt (tgt := 27) eX10_takeSheet_12 (by decide) (fun _ => ?_) (fun _ => ?_)
    · refine q_iconst eX10_takeSheet_27 kiconst_0 ?_
      exact q_zret eX10_takeSheet_28 rfl rfl
    · refine q_iload_n 2 eX10_takeSheet_15 rfl rfl ?_
      refine q_aload_n 0 eX10_takeSheet_16 rfl rfl ?_
      refine q_getG (v := 3) eX10_takeSheet_17 fl_10_19 tC_0 rfl gC_0_1 ?_
      refine q_iload_n 3 eX10_takeSheet_20 rfl rfl ?_
      refine q_callVI (As := [.int a3]) (st := [.int a2]) eX10_takeSheet_21 cv_10_204 (kX2_laysKnown X l a3 w2) tC_3 rfl (by decide) rfl rfl (Nat.le_of_ble_eq_true rfl) (by decide) (fun r3 w4 => ?_)
      refine q_icmp_lt (tgt := 29) eX10_takeSheet_24 (by decide) (fun _ => ?_) (fun _ => ?_)
      · refine q_aload_n 1 eX10_takeSheet_29 rfl rfl ?_
        refine q_iload_n 2 eX10_takeSheet_30 rfl rfl ?_
        refine q_iload_n 3 eX10_takeSheet_31 rfl rfl ?_
        refine q_callVI (As := [.int a2, .int a3]) (st := []) eX10_takeSheet_32 cv_10_268 (kX8_holds X l q1 a2 a3 w4) h1 rfl (by decide) rfl rfl (Nat.le_of_ble_eq_true rfl) (by decide) (fun r5 w6 => ?_)
        refine q_if_ne (tgt := 80) eX10_takeSheet_35 (by decide) (fun _ => ?_) (fun _ => ?_)
        · refine q_aload_n 0 eX10_takeSheet_38 rfl rfl ?_
          refine q_getG (v := 3) eX10_takeSheet_39 fl_10_19 tC_0 rfl gC_0_1 ?_
          refine q_aload_n 0 eX10_takeSheet_42 rfl rfl ?_
          refine q_getG (v := 12) eX10_takeSheet_43 fl_10_35 tC_0 rfl gC_0_3 ?_
          refine q_iload_n 3 eX10_takeSheet_46 rfl rfl ?_
          refine q_iload_n 2 eX10_takeSheet_47 rfl rfl ?_
          refine q_callVI (As := [.ref 12, .int a3, .int a2]) (st := []) eX10_takeSheet_48 cv_10_260 (kX2_pickStrokes X l a3 a2 w6) tC_3 rfl (by decide) rfl rfl (Nat.le_of_ble_eq_true rfl) (by decide) (fun r7 w8 => ?_)
          refine q_istore (lv' := [(4, .int r7), (0, .ref 0), (1, .ref q1), (2, .int a2), (3, .int a3)]) eX10_takeSheet_51 (by decide) rfl ?_
          refine q_aload_n 2 eX10_takeSheet_53 rfl rfl ?_
          refine q_aload_n 1 eX10_takeSheet_54 rfl rfl ?_
          refine q_getG (v := 12) eX10_takeSheet_55 fl_10_35 tC_0 rfl gC_0_3 ?_
          refine q_aload_n 1 eX10_takeSheet_58 rfl rfl ?_
          refine q_getG (v := 3) eX10_takeSheet_59 fl_10_19 tC_0 rfl gC_0_1 ?_
          refine q_callVR (As := []) (st := [.ref 12, .ref q1]) eX10_takeSheet_62 cv_10_159 (kX2_facts X l w8) tC_3 rfl (by decide) rfl rfl (Nat.le_of_ble_eq_true rfl) (by decide) (fun r9 w10 => ?_)
          refine q_ck (fun g11 => ?_)
          refine q_iload 0 eX10_takeSheet_65 rfl ?_
          refine q_iconst eX10_takeSheet_67 kiconst_0 ?_
          refine q_callVI (As := [.int r7, .int 0]) (st := [.ref 12, .ref q1]) eX10_takeSheet_68 cv_10_169 (kX6_numberOf X l r9 r7 0 w10) g11 rfl (by decide) rfl rfl (Nat.le_of_ble_eq_true rfl) (by decide) (fun r12 w13 => ?_)
          refine q_callVV (As := [.ref 12, .int r12]) (st := []) eX10_takeSheet_71 cv_10_271 (kX8_fill X l q1 r12 w13) h1 rfl (by decide) rfl rfl (Nat.le_of_ble_eq_true rfl) (by decide) (fun r14 w15 => ?_)
          refine q_aload_n 2 eX10_takeSheet_74 rfl rfl ?_
          refine q_iload_n 3 eX10_takeSheet_75 rfl rfl ?_
          refine q_iload_n 4 eX10_takeSheet_76 rfl rfl ?_
          refine q_callVV (As := [.int a2, .int a3]) (st := []) eX10_takeSheet_77 cv_10_275 (kX8_keepAs X l q1 a2 a3 w15) h1 rfl (by decide) rfl rfl (Nat.le_of_ble_eq_true rfl) (by decide) (fun r16 w17 => ?_)
          refine q_iconst eX10_takeSheet_80 kiconst_1 ?_
          exact q_zret eX10_takeSheet_81 rfl rfl
        · refine q_iconst eX10_takeSheet_80 kiconst_1 ?_
          exact q_zret eX10_takeSheet_81 rfl rfl
      · refine q_iconst eX10_takeSheet_27 kiconst_0 ?_
        exact q_zret eX10_takeSheet_28 rfl rfl
def fX10_cell (a1 : Int32) (a2 : Int32) (a3 : Int32) (a4 : Int32) (w : q_W) : Option (Int32 × q_W) :=
  q_b (fX8_isCell a2 a3 w) fun r1 w2 =>
  if r1 = 0 then
    some ((-2), w2)
  else
    q_b (fX10_takeSheet 14 a1 a4 w2) fun r3 w4 =>
    if r3 = 0 then
      some ((-2), w4)
    else
      q_b (fX8_colourOf 14 a2 a3 w4) fun r5 w6 =>
      some (r5, w6)
set_option maxHeartbeats 4000000 in
set_option maxRecDepth 100000 in
theorem kX10_cell (X : q_X) (l : Launch) (a1 : Int32) (a2 : Int32) (a3 : Int32) (a4 : Int32) (w : q_W) : q_Ct X S_C l mX10_cell 6 q_tI [.ref 0, .int a1, .int a2, .int a3, .int a4] w (fX10_cell a1 a2 a3 a4 w) := by
  refine q_intro (lv := [(0, .ref 0), (1, .int a1), (2, .int a2), (3, .int a3), (4, .int a4)]) (by decide +kernel) rfl (Nat.le_of_ble_eq_true rfl) rfl ?_
  refine q_iload_n 2 eX10_cell_0 rfl rfl ?_
  refine q_iload_n 3 eX10_cell_1 rfl rfl ?_
  refine q_callSI (As := [.int a2, .int a3]) (st := []) eX10_cell_2 cv_10_207 (kX8_isCell X l a2 a3 w) rfl rfl (Nat.le_of_ble_eq_true rfl) (by decide) (fun r1 w2 => ?_)
  refine q_if_eq (tgt := 34) eX10_cell_5 (by decide) (fun _ => ?_) (fun _ => ?_)
  · refine q_bipush eX10_cell_34 kbipush_m2 ?_
    exact q_ireturn eX10_cell_36 rfl
  · refine q_aload_n 0 eX10_cell_8 rfl rfl ?_
    refine q_aload_n 0 eX10_cell_9 rfl rfl ?_
    refine q_getG (v := 14) eX10_cell_10 fl_10_42 tC_0 rfl gC_0_4 ?_
    refine q_iload_n 1 eX10_cell_13 rfl rfl ?_
    refine q_iload 4 eX10_cell_14 rfl ?_
    refine q_callVI (As := [.ref 14, .int a1, .int a4]) (st := []) eX10_cell_16 cv_10_210 (kX10_takeSheet X l 14 a1 a4 w2) tC_0 rfl (by decide) rfl rfl (Nat.le_of_ble_eq_true rfl) (by decide) (fun r3 w4 => ?_)
    refine q_if_eq (tgt := 34) eX10_cell_19 (by decide) (fun _ => ?_) (fun _ => ?_)
    · refine q_bipush eX10_cell_34 kbipush_m2 ?_
      exact q_ireturn eX10_cell_36 rfl
    · refine q_aload_n 0 eX10_cell_22 rfl rfl ?_
      refine q_getG (v := 14) eX10_cell_23 fl_10_42 tC_0 rfl gC_0_4 ?_
      refine q_iload_n 2 eX10_cell_26 rfl rfl ?_
      refine q_iload_n 3 eX10_cell_27 rfl rfl ?_
      refine q_callVI (As := [.int a2, .int a3]) (st := []) eX10_cell_28 cv_10_214 (kX8_colourOf X l 14 a2 a3 w4) tC_14 rfl (by decide) rfl rfl (Nat.le_of_ble_eq_true rfl) (by decide) (fun r5 w6 => ?_)
      refine q_goto (tgt := 36) eX10_cell_31 (by decide) ?_
      exact q_ireturn eX10_cell_36 rfl
