/-! methods, printed by program: X1_pop X4_has X4_needs X4_startOf X1_enter X1_leave X4_wordAt X1_nextWord X1_startDeed X6_isFull X6_add X6_numbersOf X6_fits X1_stroke X1_nextTurn X1_settle X1_startLoop X1_turn X1_valueOf X1_step X1_perform X1_deedPlace X1_deedsDone X2_facts X6_size X2_size X6_roomLeft X2_roomLeft X2_has X2_knows -/
def fX1_pop (w : q_W) : Option (Int32 × q_W) :=
  if (w.1 31 8) ≤ 0 then
    some (0, w)
  else
    if (w.1 31 8) ≤ 64 then
      q_lt (q_sI w 31 8 ((w.1 31 8) - 1)) fun w1 =>
      q_lt (w1.1 31 8) fun y2 =>
      if q_inb y2 64 then
      some ((w1.1 32 (q_ix y2)), w1)
      else none
    else
      some (0, w)
set_option maxHeartbeats 4000000 in
set_option maxRecDepth 100000 in
theorem kX1_pop (X : q_X) (l : Launch) (w : q_W) : q_Ct X S_C l mX1_pop 0 q_tI [.ref 31] w (fX1_pop w) := by
  refine q_intro (lv := [(0, .ref 31)]) (by decide +kernel) rfl (Nat.le_of_ble_eq_true rfl) rfl ?_
  refine q_aload_n 0 eX1_pop_0 rfl rfl ?_
  refine q_getI eX1_pop_1 fl_1_45 tC_31 rfl ?_
  refine q_if_le (tgt := 16) eX1_pop_4 (by decide) (fun _ => ?_) (fun _ => ?_)
  · refine q_iconst eX1_pop_16 kiconst_0 ?_
    exact q_ireturn eX1_pop_17 rfl
  · refine q_aload_n 0 eX1_pop_7 rfl rfl ?_
    refine q_getI eX1_pop_8 fl_1_45 tC_31 rfl ?_
    refine q_bipush eX1_pop_11 kbipush_64 ?_
    refine q_icmp_le (tgt := 18) eX1_pop_13 (by decide) (fun _ => ?_) (fun _ => ?_)
    · refine q_aload_n 0 eX1_pop_18 rfl rfl ?_
      refine q_dup eX1_pop_19 rfl ?_
      refine q_getI eX1_pop_20 fl_1_45 tC_31 rfl ?_
      refine q_iconst eX1_pop_23 kiconst_1 ?_
      refine q_isub eX1_pop_24 ?_
      refine q_putI eX1_pop_25 fp_1_45 tC_31 rfl ⟨rfl, rfl⟩ ?_
      refine q_ltW (fun w1 => ?_)
      refine q_aload_n 0 eX1_pop_28 rfl rfl ?_
      refine q_getG (v := 32) eX1_pop_29 fl_1_11 tC_31 rfl gC_31_0 ?_
      refine q_aload_n 0 eX1_pop_32 rfl rfl ?_
      refine q_getI eX1_pop_33 fl_1_45 tC_31 rfl ?_
      refine q_ltI (fun y2 => ?_)
      refine q_iald eX1_pop_36 tC_32 nC_32 ?_
      exact q_ireturn eX1_pop_37 rfl
    · refine q_iconst eX1_pop_16 kiconst_0 ?_
      exact q_ireturn eX1_pop_17 rfl
def fX4_has (q0 : Nat) (a1 : Int32) (w : q_W) : Option (Int32 × q_W) :=
  if cC q0 = 4 then
  if a1 < 0 then
    some (0, w)
  else
    if (w.1 q0 4) ≤ a1 then
      some (0, w)
    else
      if 8 ≤ a1 then
        some (0, w)
      else
        some (1, w)
  else none
set_option maxHeartbeats 4000000 in
set_option maxRecDepth 100000 in
theorem kX4_has (X : q_X) (l : Launch) (q0 : Nat) (a1 : Int32) (w : q_W) : q_Ct X S_C l mX4_has 0 q_tI [.ref q0, .int a1] w (fX4_has q0 a1 w) := by
  refine q_intro (lv := [(0, .ref q0), (1, .int a1)]) (by decide +kernel) rfl (Nat.le_of_ble_eq_true rfl) rfl ?_
  refine q_ck (fun h0 => ?_)
  refine q_iload_n 1 eX4_has_0 rfl rfl ?_
  refine q_if_lt (tgt := 22) eX4_has_1 (by decide) (fun _ => ?_) (fun _ => ?_)
  · refine q_iconst eX4_has_22 kiconst_0 ?_
    exact q_zret eX4_has_23 rfl rfl
  · refine q_iload_n 1 eX4_has_4 rfl rfl ?_
    refine q_aload_n 0 eX4_has_5 rfl rfl ?_
    refine q_getI eX4_has_6 fl_4_23 h0 rfl ?_
    refine q_icmp_ge (tgt := 22) eX4_has_9 (by decide) (fun _ => ?_) (fun _ => ?_)
    · refine q_iconst eX4_has_22 kiconst_0 ?_
      exact q_zret eX4_has_23 rfl rfl
    · refine q_iload_n 1 eX4_has_12 rfl rfl ?_
      refine q_bipush eX4_has_13 kbipush_8 ?_
      refine q_icmp_ge (tgt := 22) eX4_has_15 (by decide) (fun _ => ?_) (fun _ => ?_)
      · refine q_iconst eX4_has_22 kiconst_0 ?_
        exact q_zret eX4_has_23 rfl rfl
      · refine q_iconst eX4_has_18 kiconst_1 ?_
        refine q_goto (tgt := 23) eX4_has_19 (by decide) ?_
        exact q_zret eX4_has_23 rfl rfl
def fX4_needs (q0 : Nat) (a1 : Int32) (w : q_W) : Option (Int32 × q_W) :=
  if cC q0 = 4 then
  q_b (fX4_has q0 a1 w) fun r1 w2 =>
  if r1 = 0 then
    some (0, w2)
  else
    if q_inb a1 8 then
    some ((w2.1 (fC q0 2) (q_ix a1)), w2)
    else none
  else none
set_option maxHeartbeats 4000000 in
set_option maxRecDepth 100000 in
theorem kX4_needs (X : q_X) (l : Launch) (q0 : Nat) (a1 : Int32) (w : q_W) : q_Ct X S_C l mX4_needs 1 q_tI [.ref q0, .int a1] w (fX4_needs q0 a1 w) := by
  refine q_intro (lv := [(0, .ref q0), (1, .int a1)]) (by decide +kernel) rfl (Nat.le_of_ble_eq_true rfl) rfl ?_
  refine q_ck (fun h0 => ?_)
  refine q_aload_n 0 eX4_needs_0 rfl rfl ?_
  refine q_iload_n 1 eX4_needs_1 rfl rfl ?_
  refine q_callVI (As := [.int a1]) (st := []) eX4_needs_2 cv_4_26 (kX4_has X l q0 a1 w) h0 rfl (by decide) rfl rfl (Nat.le_of_ble_eq_true rfl) (by decide) (fun r1 w2 => ?_)
  refine q_if_eq (tgt := 17) eX4_needs_5 (by decide) (fun _ => ?_) (fun _ => ?_)
  · refine q_iconst eX4_needs_17 kiconst_0 ?_
    exact q_ireturn eX4_needs_18 rfl
  · refine q_aload_n 0 eX4_needs_8 rfl rfl ?_
    refine q_getG (v := (fC q0 2)) eX4_needs_9 fl_4_16 h0 rfl rfl ?_
    refine q_iload_n 1 eX4_needs_12 rfl rfl ?_
    refine q_iald eX4_needs_13 (fxC_4_2 q0 h0) (flC_4_2 q0 h0) ?_
    refine q_goto (tgt := 18) eX4_needs_14 (by decide) ?_
    exact q_ireturn eX4_needs_18 rfl
def fX4_startOf (q0 : Nat) (a1 : Int32) (w : q_W) : Option (Int32 × q_W) :=
  if cC q0 = 4 then
  q_b (fX4_has q0 a1 w) fun r1 w2 =>
  if r1 = 0 then
    some (0, w2)
  else
    if q_inb a1 8 then
    some ((w2.1 (fC q0 1) (q_ix a1)), w2)
    else none
  else none
set_option maxHeartbeats 4000000 in
set_option maxRecDepth 100000 in
theorem kX4_startOf (X : q_X) (l : Launch) (q0 : Nat) (a1 : Int32) (w : q_W) : q_Ct X S_C l mX4_startOf 1 q_tI [.ref q0, .int a1] w (fX4_startOf q0 a1 w) := by
  refine q_intro (lv := [(0, .ref q0), (1, .int a1)]) (by decide +kernel) rfl (Nat.le_of_ble_eq_true rfl) rfl ?_
  refine q_ck (fun h0 => ?_)
  refine q_aload_n 0 eX4_startOf_0 rfl rfl ?_
  refine q_iload_n 1 eX4_startOf_1 rfl rfl ?_
  refine q_callVI (As := [.int a1]) (st := []) eX4_startOf_2 cv_4_26 (kX4_has X l q0 a1 w) h0 rfl (by decide) rfl rfl (Nat.le_of_ble_eq_true rfl) (by decide) (fun r1 w2 => ?_)
  refine q_if_eq (tgt := 17) eX4_startOf_5 (by decide) (fun _ => ?_) (fun _ => ?_)
  · refine q_iconst eX4_startOf_17 kiconst_0 ?_
    exact q_ireturn eX4_startOf_18 rfl
  · refine q_aload_n 0 eX4_startOf_8 rfl rfl ?_
    refine q_getG (v := (fC q0 1)) eX4_startOf_9 fl_4_13 h0 rfl rfl ?_
    refine q_iload_n 1 eX4_startOf_12 rfl rfl ?_
    refine q_iald eX4_startOf_13 (fxC_4_1 q0 h0) (flC_4_1 q0 h0) ?_
    refine q_goto (tgt := 18) eX4_startOf_14 (by decide) ?_
    exact q_ireturn eX4_startOf_18 rfl
def fX1_enter_n69 (w : q_W) : Option (Unit × q_W) :=
  q_b (fX1_breakOff 1 w) fun r1 w2 =>
  some ((), w2)
set_option maxHeartbeats 4000000 in
set_option maxRecDepth 100000 in
theorem jX1_enter_n69 (X : q_X) (l : Launch) (w : q_W) : q_J X S_C l mX1_enter 2 q_tV 69 [(0, .ref 31)] [] w (fX1_enter_n69 w) := by
  refine q_aload_n 0 eX1_enter_69 rfl rfl ?_
  refine q_iconst eX1_enter_70 kiconst_1 ?_
  refine q_callVV (As := [.int 1]) (st := []) eX1_enter_71 cv_1_112 (kX1_breakOff X l 1 w) tC_31 rfl (by decide) rfl rfl (Nat.le_of_ble_eq_true rfl) (by decide) (fun r1 w2 => ?_)
  exact q_return eX1_enter_74 rfl
def fX1_enter_n35 (x1 : Int32) (x3 : Int32) (s0 : Int32) (w : q_W) : Option (Unit × q_W) :=
  if cC (w.2.1 31 5) = 4 then
  q_b (fX4_has (w.2.1 31 5) x1 w) fun r2 w3 =>
  if r2 = 0 then
    fX1_enter_n69 w3
  else
    if (w3.1 31 9) < 0 then
      fX1_enter_n69 w3
    else
      if (w3.1 31 9) < (8 - 1) then
        q_lt (w3.1 31 9) fun y4 =>
        if q_inb y4 8 then
        q_lt (q_sI w3 35 (q_ix y4) (w3.1 31 7)) fun w5 =>
        q_lt (q_sI w5 31 9 ((w5.1 31 9) + 1)) fun w6 =>
        q_b (fX1_setValue 0 s0 w6) fun r7 w8 =>
        q_b (fX1_setValue 1 x3 w8) fun r9 w10 =>
        if cC (w10.2.1 31 5) = 4 then
        q_b (fX4_startOf (w10.2.1 31 5) x1 w10) fun r12 w13 =>
        q_lt (q_sI w13 31 7 r12) fun w14 =>
        some ((), w14)
        else none
        else none
      else
        fX1_enter_n69 w3
  else none
set_option maxHeartbeats 4000000 in
set_option maxRecDepth 100000 in
theorem jX1_enter_n35 (X : q_X) (l : Launch) (x1 : Int32) (x3 : Int32) (s0 : Int32) (w : q_W) : q_J X S_C l mX1_enter 2 q_tV 35 [(0, .ref 31), (1, .int x1), (3, .int x3)] [.int s0] w (fX1_enter_n35 x1 x3 s0 w) := by
  refine q_istore (lv' := [(4, .int s0), (0, .ref 31), (1, .int x1), (3, .int x3)]) eX1_enter_35 (by decide) rfl ?_
  refine q_aload_n 1 eX1_enter_37 rfl rfl ?_
  refine q_getR eX1_enter_38 fl_1_29 tC_31 rfl ?_
  refine q_ck (fun g1 => ?_)
  refine q_iload_n 2 eX1_enter_41 rfl rfl ?_
  refine q_callVI (As := [.int x1]) (st := []) eX1_enter_42 cv_1_57 (kX4_has X l (w.2.1 31 5) x1 w) g1 rfl (by decide) rfl rfl (Nat.le_of_ble_eq_true rfl) (by decide) (fun r2 w3 => ?_)
  refine q_if_eq (tgt := 69) eX1_enter_45 (by decide) (fun _ => ?_) (fun _ => ?_)
  · exact q_sub [1] rfl (jX1_enter_n69 X l w3)
  · refine q_aload_n 1 eX1_enter_48 rfl rfl ?_
    refine q_getI eX1_enter_49 fl_1_48 tC_31 rfl ?_
    refine q_if_lt (tgt := 69) eX1_enter_52 (by decide) (fun _ => ?_) (fun _ => ?_)
    · exact q_sub [1] rfl (jX1_enter_n69 X l w3)
    · refine q_aload_n 1 eX1_enter_55 rfl rfl ?_
      refine q_getI eX1_enter_56 fl_1_48 tC_31 rfl ?_
      refine q_aload_n 1 eX1_enter_59 rfl rfl ?_
      refine q_getG (v := 35) eX1_enter_60 fl_1_21 tC_31 rfl gC_31_3 ?_
      refine q_alen eX1_enter_63 tC_35 nC_35 ?_
      refine q_iconst eX1_enter_64 kiconst_1 ?_
      refine q_isub eX1_enter_65 ?_
      refine q_icmp_lt (tgt := 75) eX1_enter_66 (by decide) (fun _ => ?_) (fun _ => ?_)
      · refine q_aload_n 1 eX1_enter_75 rfl rfl ?_
        refine q_getG (v := 35) eX1_enter_76 fl_1_21 tC_31 rfl gC_31_3 ?_
        refine q_aload_n 1 eX1_enter_79 rfl rfl ?_
        refine q_getI eX1_enter_80 fl_1_48 tC_31 rfl ?_
        refine q_aload_n 1 eX1_enter_83 rfl rfl ?_
        refine q_getI eX1_enter_84 fl_1_41 tC_31 rfl ?_
        refine q_ltI1 (fun y4 => ?_)
        refine q_iast eX1_enter_87 tC_35 nC_35 ?_
        refine q_ltW (fun w5 => ?_)
        refine q_aload_n 1 eX1_enter_88 rfl rfl ?_
        refine q_dup eX1_enter_89 rfl ?_
        refine q_getI eX1_enter_90 fl_1_48 tC_31 rfl ?_
        refine q_iconst eX1_enter_93 kiconst_1 ?_
        refine q_iadd eX1_enter_94 ?_
        refine q_putI eX1_enter_95 fp_1_48 tC_31 rfl ⟨rfl, rfl⟩ ?_
        refine q_ltW (fun w6 => ?_)
        refine q_aload_n 1 eX1_enter_98 rfl rfl ?_
        refine q_iconst eX1_enter_99 kiconst_0 ?_
        refine q_iload 0 eX1_enter_100 rfl ?_
        refine q_callVV (As := [.int 0, .int s0]) (st := []) eX1_enter_102 cv_1_65 (kX1_setValue X l 0 s0 w6) tC_31 rfl (by decide) rfl rfl (Nat.le_of_ble_eq_true rfl) (by decide) (fun r7 w8 => ?_)
        refine q_aload_n 1 eX1_enter_105 rfl rfl ?_
        refine q_iconst eX1_enter_106 kiconst_1 ?_
        refine q_iload_n 3 eX1_enter_107 rfl rfl ?_
        refine q_callVV (As := [.int 1, .int x3]) (st := []) eX1_enter_108 cv_1_65 (kX1_setValue X l 1 x3 w8) tC_31 rfl (by decide) rfl rfl (Nat.le_of_ble_eq_true rfl) (by decide) (fun r9 w10 => ?_)
        refine q_aload_n 1 eX1_enter_111 rfl rfl ?_
        refine q_aload_n 1 eX1_enter_112 rfl rfl ?_
        refine q_getR eX1_enter_113 fl_1_29 tC_31 rfl ?_
        refine q_ck (fun g11 => ?_)
        refine q_iload_n 2 eX1_enter_116 rfl rfl ?_
        refine q_callVI (As := [.int x1]) (st := [.ref 31]) eX1_enter_117 cv_1_37 (kX4_startOf X l (w10.2.1 31 5) x1 w10) g11 rfl (by decide) rfl rfl (Nat.le_of_ble_eq_true rfl) (by decide) (fun r12 w13 => ?_)
        refine q_putI eX1_enter_120 fp_1_41 tC_31 rfl ⟨rfl, rfl⟩ ?_
        refine q_ltW (fun w14 => ?_)
        exact q_return eX1_enter_123 rfl
      · exact q_sub [1] rfl (jX1_enter_n69 X l w3)
def fX1_enter_n22 (x1 : Int32) (x2 : Int32) (s0 : Int32) (w : q_W) : Option (Unit × q_W) :=
  if x2 ≤ 0 then
    fX1_enter_n35 x1 s0 0 w
  else
    q_b (fX1_pop w) fun r1 w2 =>
    fX1_enter_n35 x1 s0 r1 w2
set_option maxHeartbeats 4000000 in
set_option maxRecDepth 100000 in
theorem jX1_enter_n22 (X : q_X) (l : Launch) (x1 : Int32) (x2 : Int32) (s0 : Int32) (w : q_W) : q_J X S_C l mX1_enter 2 q_tV 22 [(0, .ref 31), (1, .int x1), (2, .int x2)] [.int s0] w (fX1_enter_n22 x1 x2 s0 w) := by
  refine q_istore_n (lv' := [(3, .int s0), (0, .ref 31), (1, .int x1), (2, .int x2)]) eX1_enter_22 rfl (by decide) rfl ?_
  refine q_iload_n 3 eX1_enter_23 rfl rfl ?_
  refine q_if_le (tgt := 34) eX1_enter_24 (by decide) (fun _ => ?_) (fun _ => ?_)
  · refine q_iconst eX1_enter_34 kiconst_0 ?_
    exact q_sub [1, 2, 0] rfl (jX1_enter_n35 X l x1 s0 0 w)
  · refine q_aload_n 1 eX1_enter_27 rfl rfl ?_
    refine q_callVI (As := []) (st := []) eX1_enter_28 cv_1_90 (kX1_pop X l w) tC_31 rfl (by decide) rfl rfl (Nat.le_of_ble_eq_true rfl) (by decide) (fun r1 w2 => ?_)
    refine q_goto (tgt := 35) eX1_enter_31 (by decide) ?_
    exact q_sub [1, 2, 0] rfl (jX1_enter_n35 X l x1 s0 r1 w2)
def fX1_enter (a1 : Int32) (w : q_W) : Option (Unit × q_W) :=
  if cC (w.2.1 31 5) = 4 then
  q_b (fX4_needs (w.2.1 31 5) a1 w) fun r2 w3 =>
  if r2 ≤ 1 then
    fX1_enter_n22 a1 r2 0 w3
  else
    q_b (fX1_pop w3) fun r4 w5 =>
    fX1_enter_n22 a1 r2 r4 w5
  else none
set_option maxHeartbeats 4000000 in
set_option maxRecDepth 100000 in
theorem kX1_enter (X : q_X) (l : Launch) (a1 : Int32) (w : q_W) : q_Ct X S_C l mX1_enter 2 q_tV [.ref 31, .int a1] w (fX1_enter a1 w) := by
  refine q_intro (lv := [(0, .ref 31), (1, .int a1)]) (by decide +kernel) rfl (Nat.le_of_ble_eq_true rfl) rfl ?_
  refine q_aload_n 0 eX1_enter_0 rfl rfl ?_
  refine q_getR eX1_enter_1 fl_1_29 tC_31 rfl ?_
  refine q_ck (fun g1 => ?_)
  refine q_iload_n 1 eX1_enter_4 rfl rfl ?_
  refine q_callVI (As := [.int a1]) (st := []) eX1_enter_5 cv_1_146 (kX4_needs X l (w.2.1 31 5) a1 w) g1 rfl (by decide) rfl rfl (Nat.le_of_ble_eq_true rfl) (by decide) (fun r2 w3 => ?_)
  refine q_istore_n (lv' := [(2, .int r2), (0, .ref 31), (1, .int a1)]) eX1_enter_8 rfl (by decide) rfl ?_
  refine q_iload_n 0 eX1_enter_9 rfl rfl ?_
  refine q_iconst eX1_enter_10 kiconst_1 ?_
  refine q_icmp_le (tgt := 21) eX1_enter_11 (by decide) (fun _ => ?_) (fun _ => ?_)
  · refine q_iconst eX1_enter_21 kiconst_0 ?_
    exact q_sub [1, 2, 0] rfl (jX1_enter_n22 X l a1 r2 0 w3)
  · refine q_aload_n 1 eX1_enter_14 rfl rfl ?_
    refine q_callVI (As := []) (st := []) eX1_enter_15 cv_1_90 (kX1_pop X l w3) tC_31 rfl (by decide) rfl rfl (Nat.le_of_ble_eq_true rfl) (by decide) (fun r4 w5 => ?_)
    refine q_goto (tgt := 22) eX1_enter_18 (by decide) ?_
    exact q_sub [1, 2, 0] rfl (jX1_enter_n22 X l a1 r2 r4 w5)
def fX1_leave (w : q_W) : Option (Unit × q_W) :=
  q_lt (q_sI w 31 9 ((w.1 31 9) - 1)) fun w1 =>
  if (w1.1 31 9) < 0 then
    q_lt (q_sI w1 31 13 1) fun w2 =>
    some ((), w2)
  else
    if (w1.1 31 9) < 8 then
      q_lt (w1.1 31 9) fun y3 =>
      if q_inb y3 8 then
      q_lt (q_sI w1 31 7 (w1.1 35 (q_ix y3))) fun w4 =>
      some ((), w4)
      else none
    else
      q_lt (q_sI w1 31 13 1) fun w5 =>
      some ((), w5)
set_option maxHeartbeats 4000000 in
set_option maxRecDepth 100000 in
theorem kX1_leave (X : q_X) (l : Launch) (w : q_W) : q_Ct X S_C l mX1_leave 0 q_tV [.ref 31] w (fX1_leave w) := by
  refine q_intro (lv := [(0, .ref 31)]) (by decide +kernel) rfl (Nat.le_of_ble_eq_true rfl) rfl ?_
  refine q_aload_n 0 eX1_leave_0 rfl rfl ?_
  refine q_dup eX1_leave_1 rfl ?_
  refine q_getI eX1_leave_2 fl_1_48 tC_31 rfl ?_
  refine q_iconst eX1_leave_5 kiconst_1 ?_
  refine q_isub eX1_leave_6 ?_
  refine q_putI eX1_leave_7 fp_1_48 tC_31 rfl ⟨rfl, rfl⟩ ?_
  refine q_ltW (fun w1 => ?_)
  refine q_aload_n 0 eX1_leave_10 rfl rfl ?_
  refine q_getI eX1_leave_11 fl_1_48 tC_31 rfl ?_
  refine q_if_lt (tgt := 29) eX1_leave_14 (by decide) (fun _ => ?_) (fun _ => ?_)
  · refine q_aload_n 0 eX1_leave_29 rfl rfl ?_
    refine q_iconst eX1_leave_30 kiconst_1 ?_
    refine q_putI eX1_leave_31 fp_1_61 tC_31 rfl ⟨rfl, rfl⟩ ?_
    refine q_ltW (fun w2 => ?_)
    exact q_return eX1_leave_34 rfl
  · refine q_aload_n 0 eX1_leave_17 rfl rfl ?_
    refine q_getI eX1_leave_18 fl_1_48 tC_31 rfl ?_
    refine q_aload_n 0 eX1_leave_21 rfl rfl ?_
    refine q_getG (v := 35) eX1_leave_22 fl_1_21 tC_31 rfl gC_31_3 ?_
    refine q_alen eX1_leave_25 tC_35 nC_35 ?_
    refine q_icmp_lt (tgt := 35) eX1_leave_26 (by decide) (fun _ => ?_) (fun _ => ?_)
    · refine q_aload_n 0 eX1_leave_35 rfl rfl ?_
      refine q_aload_n 0 eX1_leave_36 rfl rfl ?_
      refine q_getG (v := 35) eX1_leave_37 fl_1_21 tC_31 rfl gC_31_3 ?_
      refine q_aload_n 0 eX1_leave_40 rfl rfl ?_
      refine q_getI eX1_leave_41 fl_1_48 tC_31 rfl ?_
      refine q_ltI (fun y3 => ?_)
      refine q_iald eX1_leave_44 tC_35 nC_35 ?_
      refine q_putI eX1_leave_45 fp_1_41 tC_31 rfl ⟨rfl, rfl⟩ ?_
      refine q_ltW (fun w4 => ?_)
      exact q_return eX1_leave_48 rfl
    · refine q_aload_n 0 eX1_leave_29 rfl rfl ?_
      refine q_iconst eX1_leave_30 kiconst_1 ?_
      refine q_putI eX1_leave_31 fp_1_61 tC_31 rfl ⟨rfl, rfl⟩ ?_
      refine q_ltW (fun w5 => ?_)
      exact q_return eX1_leave_34 rfl
def fX4_wordAt (q0 : Nat) (a1 : Int32) (w : q_W) : Option (Int32 × q_W) :=
  if cC q0 = 4 then
  if a1 < 0 then
    some (0, w)
  else
    if (w.1 q0 3) ≤ a1 then
      some (0, w)
    else
      if 2000 ≤ a1 then
        some (0, w)
      else
        if q_inb a1 2000 then
        some ((w.1 (fC q0 0) (q_ix a1)), w)
        else none
  else none
set_option maxHeartbeats 4000000 in
set_option maxRecDepth 100000 in
theorem kX4_wordAt (X : q_X) (l : Launch) (q0 : Nat) (a1 : Int32) (w : q_W) : q_Ct X S_C l mX4_wordAt 0 q_tI [.ref q0, .int a1] w (fX4_wordAt q0 a1 w) := by
  refine q_intro (lv := [(0, .ref q0), (1, .int a1)]) (by decide +kernel) rfl (Nat.le_of_ble_eq_true rfl) rfl ?_
  refine q_ck (fun h0 => ?_)
  refine q_iload_n 1 eX4_wordAt_0 rfl rfl ?_
  refine q_if_lt (tgt := 28) eX4_wordAt_1 (by decide) (fun _ => ?_) (fun _ => ?_)
  · refine q_iconst eX4_wordAt_28 kiconst_0 ?_
    exact q_ireturn eX4_wordAt_29 rfl
  · refine q_iload_n 1 eX4_wordAt_4 rfl rfl ?_
    refine q_aload_n 0 eX4_wordAt_5 rfl rfl ?_
    refine q_getI eX4_wordAt_6 fl_4_19 h0 rfl ?_
    refine q_icmp_ge (tgt := 28) eX4_wordAt_9 (by decide) (fun _ => ?_) (fun _ => ?_)
    · refine q_iconst eX4_wordAt_28 kiconst_0 ?_
      exact q_ireturn eX4_wordAt_29 rfl
    · refine q_iload_n 1 eX4_wordAt_12 rfl rfl ?_
      refine q_sipush eX4_wordAt_13 ksipush_2000 ?_
      refine q_icmp_ge (tgt := 28) eX4_wordAt_16 (by decide) (fun _ => ?_) (fun _ => ?_)
      · refine q_iconst eX4_wordAt_28 kiconst_0 ?_
        exact q_ireturn eX4_wordAt_29 rfl
      · refine q_aload_n 0 eX4_wordAt_19 rfl rfl ?_
        refine q_getG (v := (fC q0 0)) eX4_wordAt_20 fl_4_9 h0 rfl rfl ?_
        refine q_iload_n 1 eX4_wordAt_23 rfl rfl ?_
        refine q_iald eX4_wordAt_24 (fxC_4_0 q0 h0) (flC_4_0 q0 h0) ?_
        refine q_goto (tgt := 29) eX4_wordAt_25 (by decide) ?_
        exact q_ireturn eX4_wordAt_29 rfl
def fX1_nextWord (w : q_W) : Option (Int32 × q_W) :=
  if cC (w.2.1 31 5) = 4 then
  q_b (fX4_wordAt (w.2.1 31 5) (w.1 31 7) w) fun r2 w3 =>
  q_lt (q_sI w3 31 7 ((w3.1 31 7) + 1)) fun w4 =>
  some (r2, w4)
  else none
set_option maxHeartbeats 4000000 in
set_option maxRecDepth 100000 in
theorem kX1_nextWord (X : q_X) (l : Launch) (w : q_W) : q_Ct X S_C l mX1_nextWord 1 q_tI [.ref 31] w (fX1_nextWord w) := by
  refine q_intro (lv := [(0, .ref 31)]) (by decide +kernel) rfl (Nat.le_of_ble_eq_true rfl) rfl ?_
  refine q_aload_n 0 eX1_nextWord_0 rfl rfl ?_
  refine q_getR eX1_nextWord_1 fl_1_29 tC_31 rfl ?_
  refine q_ck (fun g1 => ?_)
  refine q_aload_n 0 eX1_nextWord_4 rfl rfl ?_
  refine q_getI eX1_nextWord_5 fl_1_41 tC_31 rfl ?_
  refine q_callVI (As := [.int (w.1 31 7)]) (st := []) eX1_nextWord_8 cv_1_149 (kX4_wordAt X l (w.2.1 31 5) (w.1 31 7) w) g1 rfl (by decide) rfl rfl (Nat.le_of_ble_eq_true rfl) (by decide) (fun r2 w3 => ?_)
  refine q_istore_n (lv' := [(1, .int r2), (0, .ref 31)]) eX1_nextWord_11 rfl (by decide) rfl ?_
  refine q_aload_n 1 eX1_nextWord_12 rfl rfl ?_
  refine q_dup eX1_nextWord_13 rfl ?_
  refine q_getI eX1_nextWord_14 fl_1_41 tC_31 rfl ?_
  refine q_iconst eX1_nextWord_17 kiconst_1 ?_
  refine q_iadd eX1_nextWord_18 ?_
  refine q_putI eX1_nextWord_19 fp_1_41 tC_31 rfl ⟨rfl, rfl⟩ ?_
  refine q_ltW (fun w4 => ?_)
  refine q_iload_n 0 eX1_nextWord_22 rfl rfl ?_
  exact q_ireturn eX1_nextWord_23 rfl
def fX1_startDeed (a1 : Int32) (w : q_W) : Option (Unit × q_W) :=
  q_lt (q_sI w 31 11 a1) fun w1 =>
  q_lt (q_sI w1 31 10 ((w1.1 31 10) + 1)) fun w2 =>
  if (w2.1 31 10) ≤ 2000 then
    some ((), w2)
  else
    q_b (fX1_breakOff 1 w2) fun r3 w4 =>
    some ((), w4)
set_option maxHeartbeats 4000000 in
set_option maxRecDepth 100000 in
theorem kX1_startDeed (X : q_X) (l : Launch) (a1 : Int32) (w : q_W) : q_Ct X S_C l mX1_startDeed 1 q_tV [.ref 31, .int a1] w (fX1_startDeed a1 w) := by
  refine q_intro (lv := [(0, .ref 31), (1, .int a1)]) (by decide +kernel) rfl (Nat.le_of_ble_eq_true rfl) rfl ?_
  refine q_aload_n 0 eX1_startDeed_0 rfl rfl ?_
  refine q_iload_n 1 eX1_startDeed_1 rfl rfl ?_
  refine q_putI eX1_startDeed_2 fp_1_73 tC_31 rfl ⟨rfl, rfl⟩ ?_
  refine q_ltW (fun w1 => ?_)
  refine q_aload_n 0 eX1_startDeed_5 rfl rfl ?_
  refine q_dup eX1_startDeed_6 rfl ?_
  refine q_getI eX1_startDeed_7 fl_1_51 tC_31 rfl ?_
  refine q_iconst eX1_startDeed_10 kiconst_1 ?_
  refine q_iadd eX1_startDeed_11 ?_
  refine q_putI eX1_startDeed_12 fp_1_51 tC_31 rfl ⟨rfl, rfl⟩ ?_
  refine q_ltW (fun w2 => ?_)
  refine q_aload_n 0 eX1_startDeed_15 rfl rfl ?_
  refine q_getI eX1_startDeed_16 fl_1_51 tC_31 rfl ?_
  refine q_sipush eX1_startDeed_19 ksipush_2000 ?_
  refine q_icmp_le (tgt := 30) eX1_startDeed_22 (by decide) (fun _ => ?_) (fun _ => ?_)
  · exact q_return eX1_startDeed_30 rfl
  · refine q_aload_n 0 eX1_startDeed_25 rfl rfl ?_
    refine q_iconst eX1_startDeed_26 kiconst_1 ?_
    refine q_callVV (As := [.int 1]) (st := []) eX1_startDeed_27 cv_1_112 (kX1_breakOff X l 1 w2) tC_31 rfl (by decide) rfl rfl (Nat.le_of_ble_eq_true rfl) (by decide) (fun r3 w4 => ?_)
    exact q_return eX1_startDeed_30 rfl
def fX6_isFull (q0 : Nat) (w : q_W) : Option (Int32 × q_W) :=
  if cC q0 = 6 then
  if (w.1 q0 2) < (w.1 q0 3) then
    some (0, w)
  else
    some (1, w)
  else none
set_option maxHeartbeats 4000000 in
set_option maxRecDepth 100000 in
theorem kX6_isFull (X : q_X) (l : Launch) (q0 : Nat) (w : q_W) : q_Ct X S_C l mX6_isFull 0 q_tI [.ref q0] w (fX6_isFull q0 w) := by
  refine q_intro (lv := [(0, .ref q0)]) (by decide +kernel) rfl (Nat.le_of_ble_eq_true rfl) rfl ?_
  refine q_ck (fun h0 => ?_)
  refine q_aload_n 0 eX6_isFull_0 rfl rfl ?_
  refine q_getI eX6_isFull_1 fl_6_22 h0 rfl ?_
  refine q_aload_n 0 eX6_isFull_4 rfl rfl ?_
  refine q_getI eX6_isFull_5 fl_6_18 h0 rfl ?_
  refine q_icmp_lt (tgt := 15) eX6_isFull_8 (by decide) (fun _ => ?_) (fun _ => ?_)
  · refine q_iconst eX6_isFull_15 kiconst_0 ?_
    exact q_zret eX6_isFull_16 rfl rfl
  · refine q_iconst eX6_isFull_11 kiconst_1 ?_
    refine q_goto (tgt := 16) eX6_isFull_12 (by decide) ?_
    exact q_zret eX6_isFull_16 rfl rfl
def fX6_add_n73 (q0 : Nat) (q2 : Nat) (w : q_W) : Option (Int32 × q_W) :=
  q_lt (q_sI w q0 2 ((w.1 q0 2) + 1)) fun w1 =>
  some (((w1.1 q0 2) - 1), w1)
set_option maxHeartbeats 4000000 in
set_option maxRecDepth 100000 in
theorem jX6_add_n73 (X : q_X) (l : Launch) (q0 : Nat) (q2 : Nat) (h0 : cC q0 = 6) (h2 : cC q2 = 100) (w : q_W) : q_J X S_C l mX6_add 1 q_tI 73 [(0, .ref q0)] [] w (fX6_add_n73 q0 q2 w) := by
  refine q_aload_n 0 eX6_add_73 rfl rfl ?_
  refine q_dup eX6_add_74 rfl ?_
  refine q_getI eX6_add_75 fl_6_22 h0 rfl ?_
  refine q_iconst eX6_add_78 kiconst_1 ?_
  refine q_iadd eX6_add_79 ?_
  refine q_putI eX6_add_80 fp_6_22 h0 rfl ⟨rfl, rfl⟩ ?_
  refine q_ltW (fun w1 => ?_)
  refine q_aload_n 0 eX6_add_83 rfl rfl ?_
  refine q_getI eX6_add_84 fl_6_22 h0 rfl ?_
  refine q_iconst eX6_add_87 kiconst_1 ?_
  refine q_isub eX6_add_88 ?_
  exact q_ireturn eX6_add_89 rfl
def fX6_add_h38 (q0 : Nat) (q2 : Nat) (rec38 : Int32 → q_W → Option (Int32 × q_W)) (x3 : Int32) (w : q_W) : Option (Int32 × q_W) :=
  if 6 ≤ x3 then
    fX6_add_n73 q0 q2 w
  else
    if (Int32.ofNat (lC q2)) ≤ x3 then
      fX6_add_n73 q0 q2 w
    else
      if q_inb x3 (lC q2) then
      q_lt (((w.1 q0 2) * 6) + x3) fun y1 =>
      if q_inb y1 2880 then
      q_lt (q_sI w (fC q0 1) (q_ix y1) (w.1 q2 (q_ix x3))) fun w2 =>
      q_lt (x3 + 1) fun y3 =>
      rec38 y3 w2
      else none
      else none
def fX6_add_l38 (q0 : Nat) (q2 : Nat) : Int32 → q_W → Option (Int32 × q_W) := q_it q_N (fX6_add_h38 q0 q2) (fun _ _ => none)
set_option maxHeartbeats 4000000 in
set_option maxRecDepth 100000 in
theorem jX6_add_h38 (X : q_X) (l : Launch) (q0 : Nat) (q2 : Nat) (h0 : cC q0 = 6) (h2 : cC q2 = 100) (rec38 : Int32 → q_W → Option (Int32 × q_W)) (hr38 : ∀ x3 w, q_J X S_C l mX6_add 1 q_tI 38 [(0, .ref q0), (2, .ref q2), (3, .int x3)] [] w (rec38 x3 w)) : ∀ x3 w, q_J X S_C l mX6_add 1 q_tI 38 [(0, .ref q0), (2, .ref q2), (3, .int x3)] [] w (fX6_add_h38 q0 q2 rec38 x3 w) := by
  intro x3 w
  refine q_iload_n 2 eX6_add_38 rfl rfl ?_
  refine q_bipush eX6_add_39 kbipush_6 ?_
  refine q_icmp_ge (tgt := 73) eX6_add_41 (by decide) (fun _ => ?_) (fun _ => ?_)
  · exact q_sub [0] rfl (jX6_add_n73 X l q0 q2 h0 h2 w)
  · refine q_iload_n 2 eX6_add_44 rfl rfl ?_
    refine q_aload_n 1 eX6_add_45 rfl rfl ?_
    refine q_alen eX6_add_46 h2 rfl ?_
    refine q_icmp_ge (tgt := 73) eX6_add_47 (by decide) (fun _ => ?_) (fun _ => ?_)
    · exact q_sub [0] rfl (jX6_add_n73 X l q0 q2 h0 h2 w)
    · refine q_aload_n 0 eX6_add_50 rfl rfl ?_
      refine q_getG (v := (fC q0 1)) eX6_add_51 fl_6_15 h0 rfl rfl ?_
      refine q_aload_n 0 eX6_add_54 rfl rfl ?_
      refine q_getI eX6_add_55 fl_6_22 h0 rfl ?_
      refine q_bipush eX6_add_58 kbipush_6 ?_
      refine q_imul eX6_add_60 ?_
      refine q_iload_n 2 eX6_add_61 rfl rfl ?_
      refine q_iadd eX6_add_62 ?_
      refine q_aload_n 1 eX6_add_63 rfl rfl ?_
      refine q_iload_n 2 eX6_add_64 rfl rfl ?_
      refine q_iald eX6_add_65 h2 rfl ?_
      refine q_ltI1 (fun y1 => ?_)
      refine q_iast eX6_add_66 (fxC_6_1 q0 h0) (flC_6_1 q0 h0) ?_
      refine q_ltW (fun w2 => ?_)
      refine q_ltE (fun y3 hy3 => ?_)
      refine q_iinc (v := y3) (lv' := [(3, .int y3), (0, .ref q0), (2, .ref q2)]) 2 eX6_add_67 rfl hy3 (by decide) rfl ?_
      refine q_goto (tgt := 38) eX6_add_70 (by decide) ?_
      exact q_sub [1, 2, 0] rfl (hr38 y3 w2)
set_option maxHeartbeats 4000000 in
set_option maxRecDepth 100000 in
theorem jX6_add_l38 (X : q_X) (l : Launch) (q0 : Nat) (q2 : Nat) (h0 : cC q0 = 6) (h2 : cC q2 = 100) : ∀ x3 w, q_J X S_C l mX6_add 1 q_tI 38 [(0, .ref q0), (2, .ref q2), (3, .int x3)] [] w (fX6_add_l38 q0 q2 x3 w) := by
  exact q_it_ind (fun rc => ∀ x3 w, q_J X S_C l mX6_add 1 q_tI 38 [(0, .ref q0), (2, .ref q2), (3, .int x3)] [] w (rc x3 w)) _ _ (fun _ _ => q_none) (fun rc hrc => jX6_add_h38 X l q0 q2 h0 h2 rc hrc) q_N
def fX6_add (q0 : Nat) (a1 : Int32) (q2 : Nat) (w : q_W) : Option (Int32 × q_W) :=
  if cC q0 = 6 then
  if cC q2 = 100 then
  q_b (fX6_isFull q0 w) fun r1 w2 =>
  if r1 = 0 then
    if (w2.1 q0 2) < 0 then
      some ((-1), w2)
    else
      if (w2.1 q0 2) < 480 then
        q_lt (w2.1 q0 2) fun y3 =>
        if q_inb y3 480 then
        q_lt (q_sI w2 (fC q0 0) (q_ix y3) a1) fun w4 =>
        fX6_add_l38 q0 q2 0 w4
        else none
      else
        some ((-1), w2)
  else
    some ((-1), w2)
  else none
  else none
set_option maxHeartbeats 4000000 in
set_option maxRecDepth 100000 in
theorem kX6_add (X : q_X) (l : Launch) (q0 : Nat) (a1 : Int32) (q2 : Nat) (w : q_W) : q_Ct X S_C l mX6_add 1 q_tI [.ref q0, .int a1, .ref q2] w (fX6_add q0 a1 q2 w) := by
  refine q_intro (lv := [(0, .ref q0), (1, .int a1), (2, .ref q2)]) (by decide +kernel) rfl (Nat.le_of_ble_eq_true rfl) rfl ?_
  refine q_ck (fun h0 => ?_)
  refine q_ck (fun h2 => ?_)
  refine q_aload_n 0 eX6_add_0 rfl rfl ?_
  refine q_callVI (As := []) (st := []) eX6_add_1 cv_6_38 (kX6_isFull X l q0 w) h0 rfl (by decide) rfl rfl (Nat.le_of_ble_eq_true rfl) (by decide) (fun r1 w2 => ?_)
  refine q_if_ne (tgt := 24) eX6_add_4 (by decide) (fun _ => ?_) (fun _ => ?_)
  · refine q_aload_n 0 eX6_add_7 rfl rfl ?_
    refine q_getI eX6_add_8 fl_6_22 h0 rfl ?_
    refine q_if_lt (tgt := 24) eX6_add_11 (by decide) (fun _ => ?_) (fun _ => ?_)
    · refine q_iconst eX6_add_24 kiconst_m1 ?_
      exact q_ireturn eX6_add_25 rfl
    · refine q_aload_n 0 eX6_add_14 rfl rfl ?_
      refine q_getI eX6_add_15 fl_6_22 h0 rfl ?_
      refine q_sipush eX6_add_18 ksipush_480 ?_
      refine q_icmp_lt (tgt := 26) eX6_add_21 (by decide) (fun _ => ?_) (fun _ => ?_)
      · refine q_aload_n 0 eX6_add_26 rfl rfl ?_
        refine q_getG (v := (fC q0 0)) eX6_add_27 fl_6_11 h0 rfl rfl ?_
        refine q_aload_n 0 eX6_add_30 rfl rfl ?_
        refine q_getI eX6_add_31 fl_6_22 h0 rfl ?_
        refine q_iload_n 1 eX6_add_34 rfl rfl ?_
        refine q_ltI1 (fun y3 => ?_)
        refine q_iast eX6_add_35 (fxC_6_0 q0 h0) (flC_6_0 q0 h0) ?_
        refine q_ltW (fun w4 => ?_)
        refine q_iconst eX6_add_36 kiconst_0 ?_
        refine q_istore_n (lv' := [(3, .int 0), (0, .ref q0), (1, .int a1), (2, .ref q2)]) eX6_add_37 rfl (by decide) rfl ?_
        exact q_sub [1, 3, 0] rfl (jX6_add_l38 X l q0 q2 h0 h2 0 w4)
      · refine q_iconst eX6_add_24 kiconst_m1 ?_
        exact q_ireturn eX6_add_25 rfl
  · refine q_iconst eX6_add_24 kiconst_m1 ?_
    exact q_ireturn eX6_add_25 rfl
def fX6_numbersOf (a0 : Int32) (w : q_W) : Option (Int32 × q_W) :=
  if a0 < 0 then
    some (0, w)
  else
    if 6 ≤ a0 then
      some (0, w)
    else
      if q_inb a0 6 then
      some (((q_stab 0).getD (q_ix a0) 0), w)
      else none
set_option maxHeartbeats 4000000 in
set_option maxRecDepth 100000 in
theorem kX6_numbersOf (X : q_X) (l : Launch) (a0 : Int32) (w : q_W) : q_Ct X S_C l mX6_numbersOf 0 q_tI [.int a0] w (fX6_numbersOf a0 w) := by
  refine q_intro (lv := [(0, .int a0)]) (by decide +kernel) rfl (Nat.le_of_ble_eq_true rfl) rfl ?_
  refine q_iload_n 0 eX6_numbersOf_0 rfl rfl ?_
  refine q_if_lt (tgt := 20) eX6_numbersOf_1 (by decide) (fun _ => ?_) (fun _ => ?_)
  · refine q_iconst eX6_numbersOf_20 kiconst_0 ?_
    exact q_ireturn eX6_numbersOf_21 rfl
  · refine q_iload_n 0 eX6_numbersOf_4 rfl rfl ?_
    refine q_gets 0 eX6_numbersOf_5 (by decide) sl_6_53 ?_
    refine q_slen 0 (v := 6) eX6_numbersOf_8 (by decide) (by decide) ?_
    refine q_icmp_ge (tgt := 20) eX6_numbersOf_9 (by decide) (fun _ => ?_) (fun _ => ?_)
    · refine q_iconst eX6_numbersOf_20 kiconst_0 ?_
      exact q_ireturn eX6_numbersOf_21 rfl
    · refine q_gets 0 eX6_numbersOf_12 (by decide) sl_6_53 ?_
      refine q_iload_n 0 eX6_numbersOf_15 rfl rfl ?_
      refine q_sald 0 eX6_numbersOf_16 (by decide) (n := 6) rfl ?_
      refine q_goto (tgt := 21) eX6_numbersOf_17 (by decide) ?_
      exact q_ireturn eX6_numbersOf_21 rfl
def fX6_fits_n71 (q1 : Nat) (x0 : Int32) (w : q_W) : Option (Int32 × q_W) :=
  if x0 < 0 then
    some (0, w)
  else
    if 4 < x0 then
      some (0, w)
    else
      some (1, w)
set_option maxHeartbeats 4000000 in
set_option maxRecDepth 100000 in
theorem jX6_fits_n71 (X : q_X) (l : Launch) (q1 : Nat) (h1 : cC q1 = 100) (x0 : Int32) (w : q_W) : q_J X S_C l mX6_fits 1 q_tI 71 [(0, .int x0)] [] w (fX6_fits_n71 q1 x0 w) := by
  refine q_iload_n 0 eX6_fits_71 rfl rfl ?_
  refine q_if_lt (tgt := 84) eX6_fits_72 (by decide) (fun _ => ?_) (fun _ => ?_)
  · refine q_iconst eX6_fits_84 kiconst_0 ?_
    exact q_zret eX6_fits_85 rfl rfl
  · refine q_iload_n 0 eX6_fits_75 rfl rfl ?_
    refine q_iconst eX6_fits_76 kiconst_4 ?_
    refine q_icmp_gt (tgt := 84) eX6_fits_77 (by decide) (fun _ => ?_) (fun _ => ?_)
    · refine q_iconst eX6_fits_84 kiconst_0 ?_
      exact q_zret eX6_fits_85 rfl rfl
    · refine q_iconst eX6_fits_80 kiconst_1 ?_
      refine q_goto (tgt := 85) eX6_fits_81 (by decide) ?_
      exact q_zret eX6_fits_85 rfl rfl
def fX6_fits_h2 (q1 : Nat) (rec2 : Int32 → Int32 → q_W → Option (Int32 × q_W)) (x0 : Int32) (x2 : Int32) (w : q_W) : Option (Int32 × q_W) :=
  q_b (fX6_numbersOf x0 w) fun r1 w2 =>
  if r1 ≤ x2 then
    fX6_fits_n71 q1 x0 w2
  else
    if (Int32.ofNat (lC q1)) ≤ x2 then
      fX6_fits_n71 q1 x0 w2
    else
      q_lt ((x0 * 6) + x2) fun y3 =>
      if 30 ≤ y3 then
        some (0, w2)
      else
        if y3 < 30 then
          if q_inb x2 (lC q1) then
          if q_inb y3 30 then
          if (w2.1 q1 (q_ix x2)) < ((q_stab 1).getD (q_ix y3) 0) then
            some (0, w2)
          else
            if q_inb x2 (lC q1) then
            if q_inb y3 30 then
            if (w2.1 q1 (q_ix x2)) ≤ ((q_stab 2).getD (q_ix y3) 0) then
              q_lt (x2 + 1) fun y4 =>
              rec2 x0 y4 w2
            else
              some (0, w2)
            else none
            else none
          else none
          else none
        else
          some (0, w2)
def fX6_fits_l2 (q1 : Nat) : Int32 → Int32 → q_W → Option (Int32 × q_W) := q_it q_N (fX6_fits_h2 q1) (fun _ _ _ => none)
set_option maxHeartbeats 4000000 in
set_option maxRecDepth 100000 in
theorem jX6_fits_h2 (X : q_X) (l : Launch) (q1 : Nat) (h1 : cC q1 = 100) (rec2 : Int32 → Int32 → q_W → Option (Int32 × q_W)) (hr2 : ∀ x0 x2 w, q_J X S_C l mX6_fits 1 q_tI 2 [(0, .int x0), (1, .ref q1), (2, .int x2)] [] w (rec2 x0 x2 w)) : ∀ x0 x2 w, q_J X S_C l mX6_fits 1 q_tI 2 [(0, .int x0), (1, .ref q1), (2, .int x2)] [] w (fX6_fits_h2 q1 rec2 x0 x2 w) := by
  intro x0 x2 w
  refine q_iload_n 2 eX6_fits_2 rfl rfl ?_
  refine q_iload_n 0 eX6_fits_3 rfl rfl ?_
  refine q_callSI (As := [.int x0]) (st := [.int x2]) eX6_fits_4 cv_6_56 (kX6_numbersOf X l x0 w) rfl rfl (Nat.le_of_ble_eq_true rfl) (by decide) (fun r1 w2 => ?_)
  refine q_icmp_ge (tgt := 71) eX6_fits_7 (by decide) (fun _ => ?_) (fun _ => ?_)
  · exact q_sub [0] rfl (jX6_fits_n71 X l q1 h1 x0 w2)
  · refine q_iload_n 2 eX6_fits_10 rfl rfl ?_
    refine q_aload_n 1 eX6_fits_11 rfl rfl ?_
    refine q_alen eX6_fits_12 h1 rfl ?_
    refine q_icmp_ge (tgt := 71) eX6_fits_13 (by decide) (fun _ => ?_) (fun _ => ?_)
    · exact q_sub [0] rfl (jX6_fits_n71 X l q1 h1 x0 w2)
    · refine q_iload_n 0 eX6_fits_16 rfl rfl ?_
      refine q_bipush eX6_fits_17 kbipush_6 ?_
      refine q_imul eX6_fits_19 ?_
      refine q_iload_n 2 eX6_fits_20 rfl rfl ?_
      refine q_iadd eX6_fits_21 ?_
      refine q_ltI (fun y3 => ?_)
      refine q_istore_n (lv' := [(3, .int y3), (0, .int x0), (1, .ref q1), (2, .int x2)]) eX6_fits_22 rfl (by decide) rfl ?_
      refine q_iload_n 0 eX6_fits_23 rfl rfl ?_
      refine q_gets 1 eX6_fits_24 (by decide) sl_6_59 ?_
      refine q_slen 1 (v := 30) eX6_fits_27 (by decide) (by decide) ?_
      refine q_icmp_ge (tgt := 39) eX6_fits_28 (by decide) (fun _ => ?_) (fun _ => ?_)
      · refine q_iconst eX6_fits_39 kiconst_0 ?_
        exact q_zret eX6_fits_40 rfl rfl
      · refine q_iload_n 0 eX6_fits_31 rfl rfl ?_
        refine q_gets 2 eX6_fits_32 (by decide) sl_6_62 ?_
        refine q_slen 2 (v := 30) eX6_fits_35 (by decide) (by decide) ?_
        refine q_icmp_lt (tgt := 41) eX6_fits_36 (by decide) (fun _ => ?_) (fun _ => ?_)
        · refine q_aload_n 2 eX6_fits_41 rfl rfl ?_
          refine q_iload_n 3 eX6_fits_42 rfl rfl ?_
          refine q_iald eX6_fits_43 h1 rfl ?_
          refine q_gets 1 eX6_fits_44 (by decide) sl_6_59 ?_
          refine q_iload_n 0 eX6_fits_47 rfl rfl ?_
          refine q_sald 1 eX6_fits_48 (by decide) (n := 30) rfl ?_
          refine q_icmp_lt (tgt := 63) eX6_fits_49 (by decide) (fun _ => ?_) (fun _ => ?_)
          · refine q_iconst eX6_fits_63 kiconst_0 ?_
            exact q_zret eX6_fits_64 rfl rfl
          · refine q_aload_n 2 eX6_fits_52 rfl rfl ?_
            refine q_iload_n 3 eX6_fits_53 rfl rfl ?_
            refine q_iald eX6_fits_54 h1 rfl ?_
            refine q_gets 2 eX6_fits_55 (by decide) sl_6_62 ?_
            refine q_iload_n 0 eX6_fits_58 rfl rfl ?_
            refine q_sald 2 eX6_fits_59 (by decide) (n := 30) rfl ?_
            refine q_icmp_le (tgt := 65) eX6_fits_60 (by decide) (fun _ => ?_) (fun _ => ?_)
            · refine q_ltE (fun y4 hy4 => ?_)
              refine q_iinc (v := y4) (lv' := [(2, .int y4), (3, .int y3), (0, .int x0), (1, .ref q1)]) 3 eX6_fits_65 rfl hy4 (by decide) rfl ?_
              refine q_goto (tgt := 2) eX6_fits_68 (by decide) ?_
              exact q_sub [2, 3, 0] rfl (hr2 x0 y4 w2)
            · refine q_iconst eX6_fits_63 kiconst_0 ?_
              exact q_zret eX6_fits_64 rfl rfl
        · refine q_iconst eX6_fits_39 kiconst_0 ?_
          exact q_zret eX6_fits_40 rfl rfl
set_option maxHeartbeats 4000000 in
set_option maxRecDepth 100000 in
theorem jX6_fits_l2 (X : q_X) (l : Launch) (q1 : Nat) (h1 : cC q1 = 100) : ∀ x0 x2 w, q_J X S_C l mX6_fits 1 q_tI 2 [(0, .int x0), (1, .ref q1), (2, .int x2)] [] w (fX6_fits_l2 q1 x0 x2 w) := by
  exact q_it_ind (fun rc => ∀ x0 x2 w, q_J X S_C l mX6_fits 1 q_tI 2 [(0, .int x0), (1, .ref q1), (2, .int x2)] [] w (rc x0 x2 w)) _ _ (fun _ _ _ => q_none) (fun rc hrc => jX6_fits_h2 X l q1 h1 rc hrc) q_N
def fX6_fits (a0 : Int32) (q1 : Nat) (w : q_W) : Option (Int32 × q_W) :=
  if cC q1 = 100 then
  fX6_fits_l2 q1 a0 0 w
  else none
set_option maxHeartbeats 4000000 in
set_option maxRecDepth 100000 in
theorem kX6_fits (X : q_X) (l : Launch) (a0 : Int32) (q1 : Nat) (w : q_W) : q_Ct X S_C l mX6_fits 1 q_tI [.int a0, .ref q1] w (fX6_fits a0 q1 w) := by
  refine q_intro (lv := [(0, .int a0), (1, .ref q1)]) (by decide +kernel) rfl (Nat.le_of_ble_eq_true rfl) rfl ?_
  refine q_ck (fun h1 => ?_)
  refine q_iconst eX6_fits_0 kiconst_0 ?_
  refine q_istore_n (lv' := [(2, .int 0), (0, .int a0), (1, .ref q1)]) eX6_fits_1 rfl (by decide) rfl ?_
  exact q_sub [1, 2, 0] rfl (jX6_fits_l2 X l q1 h1 a0 0 w)
def fX1_stroke_h15 (rec15 : Int32 → Int32 → q_W → Option (Unit × q_W)) (x1 : Int32) (x2 : Int32) (w : q_W) : Option (Unit × q_W) :=
  if x2 < 0 then
    q_b (fX6_fits x1 36 w) fun r1 w2 =>
    if r1 = 0 then
      q_b (fX1_breakOff 2 w2) fun r3 w4 =>
      some ((), w4)
    else
      if cC (w2.2.1 31 6) = 6 then
      q_b (fX6_isFull (w2.2.1 31 6) w2) fun r6 w7 =>
      if r6 = 0 then
        if cC (w7.2.1 31 6) = 6 then
        q_b (fX6_add (w7.2.1 31 6) x1 36 w7) fun r9 w10 =>
        some ((), w10)
        else none
      else
        q_b (fX1_breakOff 4 w7) fun r11 w12 =>
        some ((), w12)
      else none
  else
    q_b (fX1_pop w) fun r13 w14 =>
    if q_inb x2 6 then
    q_lt (q_sI w14 36 (q_ix x2) r13) fun w15 =>
    q_lt (x2 + (-1)) fun y16 =>
    rec15 x1 y16 w15
    else none
def fX1_stroke_l15 : Int32 → Int32 → q_W → Option (Unit × q_W) := q_it q_N (fX1_stroke_h15) (fun _ _ _ => none)
set_option maxHeartbeats 4000000 in
set_option maxRecDepth 100000 in
theorem jX1_stroke_h15 (X : q_X) (l : Launch) (rec15 : Int32 → Int32 → q_W → Option (Unit × q_W)) (hr15 : ∀ x1 x2 w, q_J X S_C l mX1_stroke 2 q_tV 15 [(0, .ref 31), (1, .int x1), (2, .int x2)] [] w (rec15 x1 x2 w)) : ∀ x1 x2 w, q_J X S_C l mX1_stroke 2 q_tV 15 [(0, .ref 31), (1, .int x1), (2, .int x2)] [] w (fX1_stroke_h15 rec15 x1 x2 w) := by
  intro x1 x2 w
  refine q_iload_n 2 eX1_stroke_15 rfl rfl ?_
  refine q_if_lt (tgt := 35) eX1_stroke_16 (by decide) (fun _ => ?_) (fun _ => ?_)
  · refine q_iload_n 1 eX1_stroke_35 rfl rfl ?_
    refine q_aload_n 0 eX1_stroke_36 rfl rfl ?_
    refine q_getG (v := 36) eX1_stroke_37 fl_1_26 tC_31 rfl gC_31_4 ?_
    refine q_callSI (As := [.int x1, .ref 36]) (st := []) eX1_stroke_40 cv_1_134 (kX6_fits X l x1 36 w) rfl rfl (Nat.le_of_ble_eq_true rfl) (by decide) (fun r1 w2 => ?_)
    refine q_if_ne (tgt := 54) eX1_stroke_43 (by decide) (fun _ => ?_) (fun _ => ?_)
    · refine q_aload_n 0 eX1_stroke_46 rfl rfl ?_
      refine q_iconst eX1_stroke_47 kiconst_2 ?_
      refine q_callVV (As := [.int 2]) (st := []) eX1_stroke_48 cv_1_112 (kX1_breakOff X l 2 w2) tC_31 rfl (by decide) rfl rfl (Nat.le_of_ble_eq_true rfl) (by decide) (fun r3 w4 => ?_)
      refine q_goto (tgt := 85) eX1_stroke_51 (by decide) ?_
      exact q_return eX1_stroke_85 rfl
    · refine q_aload_n 0 eX1_stroke_54 rfl rfl ?_
      refine q_getR eX1_stroke_55 fl_1_33 tC_31 rfl ?_
      refine q_ck (fun g5 => ?_)
      refine q_callVI (As := []) (st := []) eX1_stroke_58 cv_1_138 (kX6_isFull X l (w2.2.1 31 6) w2) g5 rfl (by decide) rfl rfl (Nat.le_of_ble_eq_true rfl) (by decide) (fun r6 w7 => ?_)
      refine q_if_eq (tgt := 72) eX1_stroke_61 (by decide) (fun _ => ?_) (fun _ => ?_)
      · refine q_aload_n 0 eX1_stroke_72 rfl rfl ?_
        refine q_getR eX1_stroke_73 fl_1_33 tC_31 rfl ?_
        refine q_ck (fun g8 => ?_)
        refine q_iload_n 1 eX1_stroke_76 rfl rfl ?_
        refine q_aload_n 0 eX1_stroke_77 rfl rfl ?_
        refine q_getG (v := 36) eX1_stroke_78 fl_1_26 tC_31 rfl gC_31_4 ?_
        refine q_callVI (As := [.int x1, .ref 36]) (st := []) eX1_stroke_81 cv_1_142 (kX6_add X l (w7.2.1 31 6) x1 36 w7) g8 rfl (by decide) rfl rfl (Nat.le_of_ble_eq_true rfl) (by decide) (fun r9 w10 => ?_)
        refine q_pop eX1_stroke_84 rfl ?_
        exact q_return eX1_stroke_85 rfl
      · refine q_aload_n 0 eX1_stroke_64 rfl rfl ?_
        refine q_iconst eX1_stroke_65 kiconst_4 ?_
        refine q_callVV (As := [.int 4]) (st := []) eX1_stroke_66 cv_1_112 (kX1_breakOff X l 4 w7) tC_31 rfl (by decide) rfl rfl (Nat.le_of_ble_eq_true rfl) (by decide) (fun r11 w12 => ?_)
        refine q_goto (tgt := 85) eX1_stroke_69 (by decide) ?_
        exact q_return eX1_stroke_85 rfl
  · refine q_aload_n 0 eX1_stroke_19 rfl rfl ?_
    refine q_getG (v := 36) eX1_stroke_20 fl_1_26 tC_31 rfl gC_31_4 ?_
    refine q_iload_n 2 eX1_stroke_23 rfl rfl ?_
    refine q_aload_n 0 eX1_stroke_24 rfl rfl ?_
    refine q_callVI (As := []) (st := [.int x2, .ref 36]) eX1_stroke_25 cv_1_90 (kX1_pop X l w) tC_31 rfl (by decide) rfl rfl (Nat.le_of_ble_eq_true rfl) (by decide) (fun r13 w14 => ?_)
    refine q_iast eX1_stroke_28 tC_36 nC_36 ?_
    refine q_ltW (fun w15 => ?_)
    refine q_ltE (fun y16 hy16 => ?_)
    refine q_iinc (v := y16) (lv' := [(2, .int y16), (0, .ref 31), (1, .int x1)]) 2 eX1_stroke_29 rfl hy16 (by decide) rfl ?_
    refine q_goto (tgt := 15) eX1_stroke_32 (by decide) ?_
    exact q_sub [1, 2, 0] rfl (hr15 x1 y16 w15)
set_option maxHeartbeats 4000000 in
set_option maxRecDepth 100000 in
theorem jX1_stroke_l15 (X : q_X) (l : Launch) : ∀ x1 x2 w, q_J X S_C l mX1_stroke 2 q_tV 15 [(0, .ref 31), (1, .int x1), (2, .int x2)] [] w (fX1_stroke_l15 x1 x2 w) := by
  exact q_it_ind (fun rc => ∀ x1 x2 w, q_J X S_C l mX1_stroke 2 q_tV 15 [(0, .ref 31), (1, .int x1), (2, .int x2)] [] w (rc x1 x2 w)) _ _ (fun _ _ _ => q_none) (fun rc hrc => jX1_stroke_h15 X l rc hrc) q_N
def fX1_stroke (a1 : Int32) (w : q_W) : Option (Unit × q_W) :=
  q_b (fX6_numbersOf a1 w) fun r1 w2 =>
  q_lt ((q_imin r1 6) - 1) fun y3 =>
  fX1_stroke_l15 a1 y3 w2
set_option maxHeartbeats 4000000 in
set_option maxRecDepth 100000 in
theorem kX1_stroke (X : q_X) (l : Launch) (a1 : Int32) (w : q_W) : q_Ct X S_C l mX1_stroke 2 q_tV [.ref 31, .int a1] w (fX1_stroke a1 w) := by
  refine q_intro (lv := [(0, .ref 31), (1, .int a1)]) (by decide +kernel) rfl (Nat.le_of_ble_eq_true rfl) rfl ?_
  refine q_iload_n 1 eX1_stroke_0 rfl rfl ?_
  refine q_callSI (As := [.int a1]) (st := []) eX1_stroke_1 cv_1_125 (kX6_numbersOf X l a1 w) rfl rfl (Nat.le_of_ble_eq_true rfl) (by decide) (fun r1 w2 => ?_)
  refine q_aload_n 0 eX1_stroke_4 rfl rfl ?_
  refine q_getG (v := 36) eX1_stroke_5 fl_1_26 tC_31 rfl gC_31_4 ?_
  refine q_alen eX1_stroke_8 tC_36 nC_36 ?_
  refine q_mmin eX1_stroke_9 cv_1_128 (Nat.le_of_ble_eq_true rfl) (by decide) ?_
  refine q_iconst eX1_stroke_12 kiconst_1 ?_
  refine q_isub eX1_stroke_13 ?_
  refine q_ltI (fun y3 => ?_)
  refine q_istore_n (lv' := [(2, .int y3), (0, .ref 31), (1, .int a1)]) eX1_stroke_14 rfl (by decide) rfl ?_
  exact q_sub [1, 2, 0] rfl (jX1_stroke_l15 X l a1 y3 w2)
def fX1_nextTurn (a1 : Int32) (a2 : Int32) (w : q_W) : Option (Unit × q_W) :=
  q_lt (((w.1 31 9) * 8) + a1) fun y1 =>
  if y1 < 0 then
    some ((), w)
  else
    if 64 ≤ y1 then
      some ((), w)
    else
      if 64 ≤ y1 then
        some ((), w)
      else
        if q_inb y1 64 then
        if q_inb y1 64 then
        if (w.1 34 (q_ix y1)) ≤ (w.1 33 (q_ix y1)) then
          some ((), w)
        else
          if q_inb y1 64 then
          if q_inb y1 64 then
          q_lt (q_sI w 33 (q_ix y1) ((w.1 33 (q_ix y1)) + 1)) fun w2 =>
          q_lt (q_sI w2 31 7 a2) fun w3 =>
          some ((), w3)
          else none
          else none
        else none
        else none
set_option maxHeartbeats 4000000 in
set_option maxRecDepth 100000 in
theorem kX1_nextTurn (X : q_X) (l : Launch) (a1 : Int32) (a2 : Int32) (w : q_W) : q_Ct X S_C l mX1_nextTurn 0 q_tV [.ref 31, .int a1, .int a2] w (fX1_nextTurn a1 a2 w) := by
  refine q_intro (lv := [(0, .ref 31), (1, .int a1), (2, .int a2)]) (by decide +kernel) rfl (Nat.le_of_ble_eq_true rfl) rfl ?_
  refine q_aload_n 0 eX1_nextTurn_0 rfl rfl ?_
  refine q_getI eX1_nextTurn_1 fl_1_48 tC_31 rfl ?_
  refine q_bipush eX1_nextTurn_4 kbipush_8 ?_
  refine q_imul eX1_nextTurn_6 ?_
  refine q_iload_n 1 eX1_nextTurn_7 rfl rfl ?_
  refine q_iadd eX1_nextTurn_8 ?_
  refine q_ltI (fun y1 => ?_)
  refine q_istore_n (lv' := [(3, .int y1), (0, .ref 31), (1, .int a1), (2, .int a2)]) eX1_nextTurn_9 rfl (by decide) rfl ?_
  refine q_iload_n 0 eX1_nextTurn_10 rfl rfl ?_
  refine q_if_lt (tgt := 62) eX1_nextTurn_11 (by decide) (fun _ => ?_) (fun _ => ?_)
  · exact q_return eX1_nextTurn_62 rfl
  · refine q_iload_n 0 eX1_nextTurn_14 rfl rfl ?_
    refine q_aload_n 1 eX1_nextTurn_15 rfl rfl ?_
    refine q_getG (v := 33) eX1_nextTurn_16 fl_1_15 tC_31 rfl gC_31_1 ?_
    refine q_alen eX1_nextTurn_19 tC_33 nC_33 ?_
    refine q_icmp_ge (tgt := 62) eX1_nextTurn_20 (by decide) (fun _ => ?_) (fun _ => ?_)
    · exact q_return eX1_nextTurn_62 rfl
    · refine q_iload_n 0 eX1_nextTurn_23 rfl rfl ?_
      refine q_aload_n 1 eX1_nextTurn_24 rfl rfl ?_
      refine q_getG (v := 34) eX1_nextTurn_25 fl_1_18 tC_31 rfl gC_31_2 ?_
      refine q_alen eX1_nextTurn_28 tC_34 nC_34 ?_
      refine q_icmp_ge (tgt := 62) eX1_nextTurn_29 (by decide) (fun _ => ?_) (fun _ => ?_)
      · exact q_return eX1_nextTurn_62 rfl
      · refine q_aload_n 1 eX1_nextTurn_32 rfl rfl ?_
        refine q_getG (v := 33) eX1_nextTurn_33 fl_1_15 tC_31 rfl gC_31_1 ?_
        refine q_iload_n 0 eX1_nextTurn_36 rfl rfl ?_
        refine q_iald eX1_nextTurn_37 tC_33 nC_33 ?_
        refine q_aload_n 1 eX1_nextTurn_38 rfl rfl ?_
        refine q_getG (v := 34) eX1_nextTurn_39 fl_1_18 tC_31 rfl gC_31_2 ?_
        refine q_iload_n 0 eX1_nextTurn_42 rfl rfl ?_
        refine q_iald eX1_nextTurn_43 tC_34 nC_34 ?_
        refine q_icmp_ge (tgt := 62) eX1_nextTurn_44 (by decide) (fun _ => ?_) (fun _ => ?_)
        · exact q_return eX1_nextTurn_62 rfl
        · refine q_aload_n 1 eX1_nextTurn_47 rfl rfl ?_
          refine q_getG (v := 33) eX1_nextTurn_48 fl_1_15 tC_31 rfl gC_31_1 ?_
          refine q_iload_n 0 eX1_nextTurn_51 rfl rfl ?_
          refine q_dup2 eX1_nextTurn_52 rfl rfl ?_
          refine q_iald eX1_nextTurn_53 tC_33 nC_33 ?_
          refine q_iconst eX1_nextTurn_54 kiconst_1 ?_
          refine q_iadd eX1_nextTurn_55 ?_
          refine q_iast eX1_nextTurn_56 tC_33 nC_33 ?_
          refine q_ltW (fun w2 => ?_)
          refine q_aload_n 1 eX1_nextTurn_57 rfl rfl ?_
          refine q_iload_n 3 eX1_nextTurn_58 rfl rfl ?_
          refine q_putI eX1_nextTurn_59 fp_1_41 tC_31 rfl ⟨rfl, rfl⟩ ?_
          refine q_ltW (fun w3 => ?_)
          exact q_return eX1_nextTurn_62 rfl
def fX1_settle_n14 (x1 : Int32) (x2 : Int32) (x3 : Int32) (s0 : Int32) (w : q_W) : Option (Unit × q_W) :=
  if s0 = x1 then
    q_b (fX1_push x3 w) fun r1 w2 =>
    q_lt (q_sI w2 31 7 x2) fun w3 =>
    some ((), w3)
  else
    some ((), w)
set_option maxHeartbeats 4000000 in
set_option maxRecDepth 100000 in
theorem jX1_settle_n14 (X : q_X) (l : Launch) (x1 : Int32) (x2 : Int32) (x3 : Int32) (s0 : Int32) (w : q_W) : q_J X S_C l mX1_settle 1 q_tV 14 [(0, .ref 31), (1, .int x1), (2, .int x2), (3, .int x3)] [.int s0] w (fX1_settle_n14 x1 x2 x3 s0 w) := by
  refine q_iload_n 1 eX1_settle_14 rfl rfl ?_
  refine q_icmp_ne (tgt := 28) eX1_settle_15 (by decide) (fun _ => ?_) (fun _ => ?_)
  · refine q_aload_n 0 eX1_settle_18 rfl rfl ?_
    refine q_iload_n 3 eX1_settle_19 rfl rfl ?_
    refine q_callVV (As := [.int x3]) (st := []) eX1_settle_20 cv_1_84 (kX1_push X l x3 w) tC_31 rfl (by decide) rfl rfl (Nat.le_of_ble_eq_true rfl) (by decide) (fun r1 w2 => ?_)
    refine q_aload_n 0 eX1_settle_23 rfl rfl ?_
    refine q_iload_n 2 eX1_settle_24 rfl rfl ?_
    refine q_putI eX1_settle_25 fp_1_41 tC_31 rfl ⟨rfl, rfl⟩ ?_
    refine q_ltW (fun w3 => ?_)
    exact q_return eX1_settle_28 rfl
  · exact q_return eX1_settle_28 rfl
def fX1_settle (a1 : Int32) (a2 : Int32) (w : q_W) : Option (Unit × q_W) :=
  q_b (fX1_pop w) fun r1 w2 =>
  if r1 = 0 then
    fX1_settle_n14 a1 a2 r1 0 w2
  else
    fX1_settle_n14 a1 a2 r1 1 w2
set_option maxHeartbeats 4000000 in
set_option maxRecDepth 100000 in
theorem kX1_settle (X : q_X) (l : Launch) (a1 : Int32) (a2 : Int32) (w : q_W) : q_Ct X S_C l mX1_settle 1 q_tV [.ref 31, .int a1, .int a2] w (fX1_settle a1 a2 w) := by
  refine q_intro (lv := [(0, .ref 31), (1, .int a1), (2, .int a2)]) (by decide +kernel) rfl (Nat.le_of_ble_eq_true rfl) rfl ?_
  refine q_aload_n 0 eX1_settle_0 rfl rfl ?_
  refine q_callVI (As := []) (st := []) eX1_settle_1 cv_1_90 (kX1_pop X l w) tC_31 rfl (by decide) rfl rfl (Nat.le_of_ble_eq_true rfl) (by decide) (fun r1 w2 => ?_)
  refine q_istore_n (lv' := [(3, .int r1), (0, .ref 31), (1, .int a1), (2, .int a2)]) eX1_settle_4 rfl (by decide) rfl ?_
  refine q_iload_n 0 eX1_settle_5 rfl rfl ?_
  refine q_if_eq (tgt := 13) eX1_settle_6 (by decide) (fun _ => ?_) (fun _ => ?_)
  · refine q_iconst eX1_settle_13 kiconst_0 ?_
    exact q_sub [1, 2, 3, 0] rfl (jX1_settle_n14 X l a1 a2 r1 0 w2)
  · refine q_iconst eX1_settle_9 kiconst_1 ?_
    refine q_goto (tgt := 14) eX1_settle_10 (by decide) ?_
    exact q_sub [1, 2, 3, 0] rfl (jX1_settle_n14 X l a1 a2 r1 1 w2)
def fX1_startLoop (a1 : Int32) (a2 : Int32) (w : q_W) : Option (Unit × q_W) :=
  q_b (fX1_pop w) fun r1 w2 =>
  q_b (fX1_pop w2) fun r3 w4 =>
  if r3 ≤ r1 then
    q_b (fX1_setValue a1 r3 w4) fun r5 w6 =>
    q_lt (((w6.1 31 9) * 8) + a1) fun y7 =>
    if y7 < 0 then
      some ((), w6)
    else
      if 64 ≤ y7 then
        some ((), w6)
      else
        if q_inb y7 64 then
        q_lt (q_sI w6 34 (q_ix y7) r1) fun w8 =>
        some ((), w8)
        else none
  else
    q_lt (q_sI w4 31 7 a2) fun w9 =>
    some ((), w9)
set_option maxHeartbeats 4000000 in
set_option maxRecDepth 100000 in
theorem kX1_startLoop (X : q_X) (l : Launch) (a1 : Int32) (a2 : Int32) (w : q_W) : q_Ct X S_C l mX1_startLoop 1 q_tV [.ref 31, .int a1, .int a2] w (fX1_startLoop a1 a2 w) := by
  refine q_intro (lv := [(0, .ref 31), (1, .int a1), (2, .int a2)]) (by decide +kernel) rfl (Nat.le_of_ble_eq_true rfl) rfl ?_
  refine q_aload_n 0 eX1_startLoop_0 rfl rfl ?_
  refine q_callVI (As := []) (st := []) eX1_startLoop_1 cv_1_90 (kX1_pop X l w) tC_31 rfl (by decide) rfl rfl (Nat.le_of_ble_eq_true rfl) (by decide) (fun r1 w2 => ?_)
  refine q_istore_n (lv' := [(3, .int r1), (0, .ref 31), (1, .int a1), (2, .int a2)]) eX1_startLoop_4 rfl (by decide) rfl ?_
  refine q_aload_n 1 eX1_startLoop_5 rfl rfl ?_
  refine q_callVI (As := []) (st := []) eX1_startLoop_6 cv_1_90 (kX1_pop X l w2) tC_31 rfl (by decide) rfl rfl (Nat.le_of_ble_eq_true rfl) (by decide) (fun r3 w4 => ?_)
  refine q_istore (lv' := [(4, .int r3), (3, .int r1), (0, .ref 31), (1, .int a1), (2, .int a2)]) eX1_startLoop_9 (by decide) rfl ?_
  refine q_iload_n 1 eX1_startLoop_11 rfl rfl ?_
  refine q_iload 0 eX1_startLoop_12 rfl ?_
  refine q_icmp_ge (tgt := 23) eX1_startLoop_14 (by decide) (fun _ => ?_) (fun _ => ?_)
  · refine q_aload_n 2 eX1_startLoop_23 rfl rfl ?_
    refine q_iload_n 3 eX1_startLoop_24 rfl rfl ?_
    refine q_iload 0 eX1_startLoop_25 rfl ?_
    refine q_callVV (As := [.int a1, .int r3]) (st := []) eX1_startLoop_27 cv_1_65 (kX1_setValue X l a1 r3 w4) tC_31 rfl (by decide) rfl rfl (Nat.le_of_ble_eq_true rfl) (by decide) (fun r5 w6 => ?_)
    refine q_aload_n 2 eX1_startLoop_30 rfl rfl ?_
    refine q_getI eX1_startLoop_31 fl_1_48 tC_31 rfl ?_
    refine q_bipush eX1_startLoop_34 kbipush_8 ?_
    refine q_imul eX1_startLoop_36 ?_
    refine q_iload_n 3 eX1_startLoop_37 rfl rfl ?_
    refine q_iadd eX1_startLoop_38 ?_
    refine q_ltI (fun y7 => ?_)
    refine q_istore (lv' := [(5, .int y7), (4, .int r3), (3, .int r1), (0, .ref 31), (1, .int a1), (2, .int a2)]) eX1_startLoop_39 (by decide) rfl ?_
    refine q_iload 0 eX1_startLoop_41 rfl ?_
    refine q_if_lt (tgt := 64) eX1_startLoop_43 (by decide) (fun _ => ?_) (fun _ => ?_)
    · exact q_return eX1_startLoop_64 rfl
    · refine q_iload 0 eX1_startLoop_46 rfl ?_
      refine q_aload_n 3 eX1_startLoop_48 rfl rfl ?_
      refine q_getG (v := 34) eX1_startLoop_49 fl_1_18 tC_31 rfl gC_31_2 ?_
      refine q_alen eX1_startLoop_52 tC_34 nC_34 ?_
      refine q_icmp_ge (tgt := 64) eX1_startLoop_53 (by decide) (fun _ => ?_) (fun _ => ?_)
      · exact q_return eX1_startLoop_64 rfl
      · refine q_aload_n 3 eX1_startLoop_56 rfl rfl ?_
        refine q_getG (v := 34) eX1_startLoop_57 fl_1_18 tC_31 rfl gC_31_2 ?_
        refine q_iload 0 eX1_startLoop_60 rfl ?_
        refine q_iload_n 2 eX1_startLoop_62 rfl rfl ?_
        refine q_iast eX1_startLoop_63 tC_34 nC_34 ?_
        refine q_ltW (fun w8 => ?_)
        exact q_return eX1_startLoop_64 rfl
  · refine q_aload_n 2 eX1_startLoop_17 rfl rfl ?_
    refine q_iload_n 4 eX1_startLoop_18 rfl rfl ?_
    refine q_putI eX1_startLoop_19 fp_1_41 tC_31 rfl ⟨rfl, rfl⟩ ?_
    refine q_ltW (fun w9 => ?_)
    exact q_return eX1_startLoop_22 rfl
def fX1_turn_n114 (w : q_W) : Option (Unit × q_W) :=
  q_b (fX1_breakOff 1 w) fun r1 w2 =>
  some ((), w2)
set_option maxHeartbeats 4000000 in
set_option maxRecDepth 100000 in
theorem jX1_turn_n114 (X : q_X) (l : Launch) (w : q_W) : q_J X S_C l mX1_turn 2 q_tV 114 [(0, .ref 31)] [] w (fX1_turn_n114 w) := by
  refine q_aload_n 0 eX1_turn_114 rfl rfl ?_
  refine q_iconst eX1_turn_115 kiconst_1 ?_
  refine q_callVV (As := [.int 1]) (st := []) eX1_turn_116 cv_1_112 (kX1_breakOff X l 1 w) tC_31 rfl (by decide) rfl rfl (Nat.le_of_ble_eq_true rfl) (by decide) (fun r1 w2 => ?_)
  exact q_return eX1_turn_119 rfl
def fX1_turn_n60 (x2 : Int32) (s0 : Int32) (w : q_W) : Option (Unit × q_W) :=
  q_b (fX1_settle s0 x2 w) fun r1 w2 =>
  some ((), w2)
set_option maxHeartbeats 4000000 in
set_option maxRecDepth 100000 in
theorem jX1_turn_n60 (X : q_X) (l : Launch) (x2 : Int32) (s0 : Int32) (w : q_W) : q_J X S_C l mX1_turn 2 q_tV 60 [(2, .int x2)] [.int s0, .ref 31] w (fX1_turn_n60 x2 s0 w) := by
  refine q_iload_n 0 eX1_turn_60 rfl rfl ?_
  refine q_callVV (As := [.int s0, .int x2]) (st := []) eX1_turn_61 cv_1_115 (kX1_settle X l s0 x2 w) tC_31 rfl (by decide) rfl rfl (Nat.le_of_ble_eq_true rfl) (by decide) (fun r1 w2 => ?_)
  refine q_goto (tgt := 119) eX1_turn_64 (by decide) ?_
  exact q_return eX1_turn_119 rfl
def fX1_turn_n48 (x1 : Int32) (x2 : Int32) (w : q_W) : Option (Unit × q_W) :=
  if x1 = 15 then
    fX1_turn_n60 x2 1 w
  else
    fX1_turn_n60 x2 0 w
set_option maxHeartbeats 4000000 in
set_option maxRecDepth 100000 in
theorem jX1_turn_n48 (X : q_X) (l : Launch) (x1 : Int32) (x2 : Int32) (w : q_W) : q_J X S_C l mX1_turn 2 q_tV 48 [(0, .ref 31), (1, .int x1), (2, .int x2)] [] w (fX1_turn_n48 x1 x2 w) := by
  refine q_aload_n 0 eX1_turn_48 rfl rfl ?_
  refine q_iload_n 1 eX1_turn_49 rfl rfl ?_
  refine q_bipush eX1_turn_50 kbipush_15 ?_
  refine q_icmp_ne (tgt := 59) eX1_turn_52 (by decide) (fun _ => ?_) (fun _ => ?_)
  · refine q_iconst eX1_turn_55 kiconst_1 ?_
    refine q_goto (tgt := 60) eX1_turn_56 (by decide) ?_
    exact q_sub [2] rfl (jX1_turn_n60 X l x2 1 w)
  · refine q_iconst eX1_turn_59 kiconst_0 ?_
    exact q_sub [2] rfl (jX1_turn_n60 X l x2 0 w)
def fX1_turn (a1 : Int32) (w : q_W) : Option (Unit × q_W) :=
  q_b (fX1_nextWord w) fun r1 w2 =>
  if a1 = 14 then
    fX1_turn_n48 a1 r1 w2
  else if a1 = 15 then
    fX1_turn_n48 a1 r1 w2
  else if a1 = 16 then
    q_b (fX1_pop w2) fun r6 w7 =>
    if r6 = 0 then
      q_lt (q_sI w7 31 7 r1) fun w8 =>
      some ((), w8)
    else
      some ((), w7)
  else if a1 = 17 then
    q_lt (q_sI w2 31 7 r1) fun w10 =>
    some ((), w10)
  else if a1 = 18 then
    q_b (fX1_nextWord w2) fun r12 w13 =>
    q_b (fX1_startLoop r1 r12 w13) fun r14 w15 =>
    some ((), w15)
  else if a1 = 20 then
    q_b (fX1_nextWord w2) fun r17 w18 =>
    q_b (fX1_nextTurn r1 r17 w18) fun r19 w20 =>
    some ((), w20)
  else fX1_turn_n114 w2
set_option maxHeartbeats 4000000 in
set_option maxRecDepth 100000 in
theorem kX1_turn (X : q_X) (l : Launch) (a1 : Int32) (w : q_W) : q_Ct X S_C l mX1_turn 2 q_tV [.ref 31, .int a1] w (fX1_turn a1 w) := by
  refine q_intro (lv := [(0, .ref 31), (1, .int a1)]) (by decide +kernel) rfl (Nat.le_of_ble_eq_true rfl) rfl ?_
  refine q_aload_n 0 eX1_turn_0 rfl rfl ?_
  refine q_callVI (As := []) (st := []) eX1_turn_1 cv_1_76 (kX1_nextWord X l w) tC_31 rfl (by decide) rfl rfl (Nat.le_of_ble_eq_true rfl) (by decide) (fun r1 w2 => ?_)
  refine q_istore_n (lv' := [(2, .int r1), (0, .ref 31), (1, .int a1)]) eX1_turn_4 rfl (by decide) rfl ?_
  refine q_iload_n 2 eX1_turn_5 rfl rfl ?_
  refine q_ite (fun c3 => ?_) (fun c3 => ?_)
  · refine q_tabIn (off := 42) (tgt := 48) eX1_turn_6 (by rw [c3]; decide) (by rw [c3]; decide) (by rw [c3]; rfl) (by decide) ?_
    exact q_sub [1, 2, 0] rfl (jX1_turn_n48 X l a1 r1 w2)
  refine q_ite (fun c4 => ?_) (fun c4 => ?_)
  · refine q_tabIn (off := 42) (tgt := 48) eX1_turn_6 (by rw [c4]; decide) (by rw [c4]; decide) (by rw [c4]; rfl) (by decide) ?_
    exact q_sub [1, 2, 0] rfl (jX1_turn_n48 X l a1 r1 w2)
  refine q_ite (fun c5 => ?_) (fun c5 => ?_)
  · refine q_tabIn (off := 61) (tgt := 67) eX1_turn_6 (by rw [c5]; decide) (by rw [c5]; decide) (by rw [c5]; rfl) (by decide) ?_
    refine q_aload_n 1 eX1_turn_67 rfl rfl ?_
    refine q_callVI (As := []) (st := []) eX1_turn_68 cv_1_90 (kX1_pop X l w2) tC_31 rfl (by decide) rfl rfl (Nat.le_of_ble_eq_true rfl) (by decide) (fun r6 w7 => ?_)
    refine q_if_ne (tgt := 119) eX1_turn_71 (by decide) (fun _ => ?_) (fun _ => ?_)
    · refine q_aload_n 1 eX1_turn_74 rfl rfl ?_
      refine q_iload_n 0 eX1_turn_75 rfl rfl ?_
      refine q_putI eX1_turn_76 fp_1_41 tC_31 rfl ⟨rfl, rfl⟩ ?_
      refine q_ltW (fun w8 => ?_)
      refine q_goto (tgt := 119) eX1_turn_79 (by decide) ?_
      exact q_return eX1_turn_119 rfl
    · exact q_return eX1_turn_119 rfl
  refine q_ite (fun c9 => ?_) (fun c9 => ?_)
  · refine q_tabIn (off := 76) (tgt := 82) eX1_turn_6 (by rw [c9]; decide) (by rw [c9]; decide) (by rw [c9]; rfl) (by decide) ?_
    refine q_aload_n 1 eX1_turn_82 rfl rfl ?_
    refine q_iload_n 0 eX1_turn_83 rfl rfl ?_
    refine q_putI eX1_turn_84 fp_1_41 tC_31 rfl ⟨rfl, rfl⟩ ?_
    refine q_ltW (fun w10 => ?_)
    refine q_goto (tgt := 119) eX1_turn_87 (by decide) ?_
    exact q_return eX1_turn_119 rfl
  refine q_ite (fun c11 => ?_) (fun c11 => ?_)
  · refine q_tabIn (off := 84) (tgt := 90) eX1_turn_6 (by rw [c11]; decide) (by rw [c11]; decide) (by rw [c11]; rfl) (by decide) ?_
    refine q_aload_n 1 eX1_turn_90 rfl rfl ?_
    refine q_iload_n 0 eX1_turn_91 rfl rfl ?_
    refine q_aload_n 1 eX1_turn_92 rfl rfl ?_
    refine q_callVI (As := []) (st := [.int r1, .ref 31]) eX1_turn_93 cv_1_76 (kX1_nextWord X l w2) tC_31 rfl (by decide) rfl rfl (Nat.le_of_ble_eq_true rfl) (by decide) (fun r12 w13 => ?_)
    refine q_callVV (As := [.int r1, .int r12]) (st := []) eX1_turn_96 cv_1_119 (kX1_startLoop X l r1 r12 w13) tC_31 rfl (by decide) rfl rfl (Nat.le_of_ble_eq_true rfl) (by decide) (fun r14 w15 => ?_)
    refine q_goto (tgt := 119) eX1_turn_99 (by decide) ?_
    exact q_return eX1_turn_119 rfl
  refine q_ite (fun c16 => ?_) (fun c16 => ?_)
  · refine q_tabIn (off := 96) (tgt := 102) eX1_turn_6 (by rw [c16]; decide) (by rw [c16]; decide) (by rw [c16]; rfl) (by decide) ?_
    refine q_aload_n 1 eX1_turn_102 rfl rfl ?_
    refine q_iload_n 0 eX1_turn_103 rfl rfl ?_
    refine q_aload_n 1 eX1_turn_104 rfl rfl ?_
    refine q_callVI (As := []) (st := [.int r1, .ref 31]) eX1_turn_105 cv_1_76 (kX1_nextWord X l w2) tC_31 rfl (by decide) rfl rfl (Nat.le_of_ble_eq_true rfl) (by decide) (fun r17 w18 => ?_)
    refine q_callVV (As := [.int r1, .int r17]) (st := []) eX1_turn_108 cv_1_122 (kX1_nextTurn X l r1 r17 w18) tC_31 rfl (by decide) rfl rfl (Nat.le_of_ble_eq_true rfl) (by decide) (fun r19 w20 => ?_)
    refine q_goto (tgt := 119) eX1_turn_111 (by decide) ?_
    exact q_return eX1_turn_119 rfl
  refine q_tabD (x := a1) (tgt := 114) eX1_turn_6 (by intro z1 z2; have zc3 := lv_neT (a := 14) c3 rfl; have zc4 := lv_neT (a := 15) c4 rfl; have zc5 := lv_neT (a := 16) c5 rfl; have zc9 := lv_neT (a := 17) c9 rfl; have zc11 := lv_neT (a := 18) c11 rfl; have zc16 := lv_neT (a := 20) c16 rfl; have zz : Int32.toInt a1 = 19 := (by omega); rw [zz]; rfl) (by decide) ?_
  exact q_sub [1] rfl (jX1_turn_n114 X l w2)
def fX1_valueOf (a1 : Int32) (w : q_W) : Option (Int32 × q_W) :=
  q_lt (((w.1 31 9) * 8) + a1) fun y1 =>
  if y1 < 0 then
    some (0, w)
  else
    if 64 ≤ y1 then
      some (0, w)
    else
      if q_inb y1 64 then
      some ((w.1 33 (q_ix y1)), w)
      else none
set_option maxHeartbeats 4000000 in
set_option maxRecDepth 100000 in
theorem kX1_valueOf (X : q_X) (l : Launch) (a1 : Int32) (w : q_W) : q_Ct X S_C l mX1_valueOf 0 q_tI [.ref 31, .int a1] w (fX1_valueOf a1 w) := by
  refine q_intro (lv := [(0, .ref 31), (1, .int a1)]) (by decide +kernel) rfl (Nat.le_of_ble_eq_true rfl) rfl ?_
  refine q_aload_n 0 eX1_valueOf_0 rfl rfl ?_
  refine q_getI eX1_valueOf_1 fl_1_48 tC_31 rfl ?_
  refine q_bipush eX1_valueOf_4 kbipush_8 ?_
  refine q_imul eX1_valueOf_6 ?_
  refine q_iload_n 1 eX1_valueOf_7 rfl rfl ?_
  refine q_iadd eX1_valueOf_8 ?_
  refine q_ltI (fun y1 => ?_)
  refine q_istore_n (lv' := [(2, .int y1), (0, .ref 31), (1, .int a1)]) eX1_valueOf_9 rfl (by decide) rfl ?_
  refine q_iload_n 0 eX1_valueOf_10 rfl rfl ?_
  refine q_if_lt (tgt := 32) eX1_valueOf_11 (by decide) (fun _ => ?_) (fun _ => ?_)
  · refine q_iconst eX1_valueOf_32 kiconst_0 ?_
    exact q_ireturn eX1_valueOf_33 rfl
  · refine q_iload_n 0 eX1_valueOf_14 rfl rfl ?_
    refine q_aload_n 1 eX1_valueOf_15 rfl rfl ?_
    refine q_getG (v := 33) eX1_valueOf_16 fl_1_15 tC_31 rfl gC_31_1 ?_
    refine q_alen eX1_valueOf_19 tC_33 nC_33 ?_
    refine q_icmp_ge (tgt := 32) eX1_valueOf_20 (by decide) (fun _ => ?_) (fun _ => ?_)
    · refine q_iconst eX1_valueOf_32 kiconst_0 ?_
      exact q_ireturn eX1_valueOf_33 rfl
    · refine q_aload_n 1 eX1_valueOf_23 rfl rfl ?_
      refine q_getG (v := 33) eX1_valueOf_24 fl_1_15 tC_31 rfl gC_31_1 ?_
      refine q_iload_n 0 eX1_valueOf_27 rfl rfl ?_
      refine q_iald eX1_valueOf_28 tC_33 nC_33 ?_
      refine q_goto (tgt := 33) eX1_valueOf_29 (by decide) ?_
      exact q_ireturn eX1_valueOf_33 rfl
def fX1_step_n219 (x1 : Int32) (w : q_W) : Option (Unit × q_W) :=
  q_b (fX1_turn x1 w) fun r1 w2 =>
  some ((), w2)
set_option maxHeartbeats 4000000 in
set_option maxRecDepth 100000 in
theorem jX1_step_n219 (X : q_X) (l : Launch) (x1 : Int32) (w : q_W) : q_J X S_C l mX1_step 3 q_tV 219 [(0, .ref 31), (1, .int x1)] [] w (fX1_step_n219 x1 w) := by
  refine q_aload_n 0 eX1_step_219 rfl rfl ?_
  refine q_iload_n 1 eX1_step_220 rfl rfl ?_
  refine q_callVV (As := [.int x1]) (st := []) eX1_step_221 cv_1_106 (kX1_turn X l x1 w) tC_31 rfl (by decide) rfl rfl (Nat.le_of_ble_eq_true rfl) (by decide) (fun r1 w2 => ?_)
  exact q_return eX1_step_224 rfl
def fX1_step_n190 (x1 : Int32) (w : q_W) : Option (Unit × q_W) :=
  if x1 < 5 then
    fX1_step_n219 x1 w
  else
    if 13 < x1 then
      fX1_step_n219 x1 w
    else
      q_b (fX1_pop w) fun r1 w2 =>
      q_b (fX1_pop w2) fun r3 w4 =>
      q_b (fX1_combine x1 r3 r1 w4) fun r5 w6 =>
      some ((), w6)
set_option maxHeartbeats 4000000 in
set_option maxRecDepth 100000 in
theorem jX1_step_n190 (X : q_X) (l : Launch) (x1 : Int32) (w : q_W) : q_J X S_C l mX1_step 3 q_tV 190 [(0, .ref 31), (1, .int x1)] [] w (fX1_step_n190 x1 w) := by
  refine q_iload_n 1 eX1_step_190 rfl rfl ?_
  refine q_iconst eX1_step_191 kiconst_5 ?_
  refine q_icmp_lt (tgt := 219) eX1_step_192 (by decide) (fun _ => ?_) (fun _ => ?_)
  · exact q_sub [0, 1] rfl (jX1_step_n219 X l x1 w)
  · refine q_iload_n 1 eX1_step_195 rfl rfl ?_
    refine q_bipush eX1_step_196 kbipush_13 ?_
    refine q_icmp_gt (tgt := 219) eX1_step_198 (by decide) (fun _ => ?_) (fun _ => ?_)
    · exact q_sub [0, 1] rfl (jX1_step_n219 X l x1 w)
    · refine q_aload_n 0 eX1_step_201 rfl rfl ?_
      refine q_callVI (As := []) (st := []) eX1_step_202 cv_1_90 (kX1_pop X l w) tC_31 rfl (by decide) rfl rfl (Nat.le_of_ble_eq_true rfl) (by decide) (fun r1 w2 => ?_)
      refine q_istore_n (lv' := [(2, .int r1), (0, .ref 31), (1, .int x1)]) eX1_step_205 rfl (by decide) rfl ?_
      refine q_aload_n 1 eX1_step_206 rfl rfl ?_
      refine q_iload_n 2 eX1_step_207 rfl rfl ?_
      refine q_aload_n 1 eX1_step_208 rfl rfl ?_
      refine q_callVI (As := []) (st := [.int x1, .ref 31]) eX1_step_209 cv_1_90 (kX1_pop X l w2) tC_31 rfl (by decide) rfl rfl (Nat.le_of_ble_eq_true rfl) (by decide) (fun r3 w4 => ?_)
      refine q_iload_n 0 eX1_step_212 rfl rfl ?_
      refine q_callVV (As := [.int x1, .int r3, .int r1]) (st := []) eX1_step_213 cv_1_102 (kX1_combine X l x1 r3 r1 w4) tC_31 rfl (by decide) rfl rfl (Nat.le_of_ble_eq_true rfl) (by decide) (fun r5 w6 => ?_)
      refine q_goto (tgt := 224) eX1_step_216 (by decide) ?_
      exact q_return eX1_step_224 rfl
def fX1_step_n112 (w : q_W) : Option (Unit × q_W) :=
  q_b (fX1_nextWord w) fun r1 w2 =>
  q_b (fX1_startDeed r1 w2) fun r3 w4 =>
  some ((), w4)
set_option maxHeartbeats 4000000 in
set_option maxRecDepth 100000 in
theorem jX1_step_n112 (X : q_X) (l : Launch) (w : q_W) : q_J X S_C l mX1_step 3 q_tV 112 [(0, .ref 31)] [] w (fX1_step_n112 w) := by
  refine q_aload_n 0 eX1_step_112 rfl rfl ?_
  refine q_aload_n 0 eX1_step_113 rfl rfl ?_
  refine q_callVI (As := []) (st := [.ref 31]) eX1_step_114 cv_1_76 (kX1_nextWord X l w) tC_31 rfl (by decide) rfl rfl (Nat.le_of_ble_eq_true rfl) (by decide) (fun r1 w2 => ?_)
  refine q_callVV (As := [.int r1]) (st := []) eX1_step_117 cv_1_80 (kX1_startDeed X l r1 w2) tC_31 rfl (by decide) rfl rfl (Nat.le_of_ble_eq_true rfl) (by decide) (fun r3 w4 => ?_)
  refine q_goto (tgt := 224) eX1_step_120 (by decide) ?_
  exact q_return eX1_step_224 rfl
def fX1_step (w : q_W) : Option (Unit × q_W) :=
  q_b (fX1_nextWord w) fun r1 w2 =>
  if r1 = 0 then
    q_b (fX1_leave w2) fun r4 w5 =>
    some ((), w5)
  else if r1 = 1 then
    fX1_step_n112 w2
  else if r1 = 2 then
    q_b (fX1_nextWord w2) fun r8 w9 =>
    q_b (fX1_push r8 w9) fun r10 w11 =>
    some ((), w11)
  else if r1 = 3 then
    q_b (fX1_nextWord w2) fun r13 w14 =>
    q_b (fX1_valueOf r13 w14) fun r15 w16 =>
    q_b (fX1_push r15 w16) fun r17 w18 =>
    some ((), w18)
  else if r1 = 4 then
    q_b (fX1_pop w2) fun r20 w21 =>
    q_b (fX1_push (0 - r20) w21) fun r22 w23 =>
    some ((), w23)
  else if r1 = 19 then
    fX1_step_n112 w2
  else if r1 = 21 then
    q_b (fX1_nextWord w2) fun r26 w27 =>
    q_b (fX1_stroke r26 w27) fun r28 w29 =>
    some ((), w29)
  else if r1 = 22 then
    q_b (fX1_nextWord w2) fun r31 w32 =>
    q_b (fX1_enter r31 w32) fun r33 w34 =>
    some ((), w34)
  else fX1_step_n190 r1 w2
set_option maxHeartbeats 4000000 in
set_option maxRecDepth 100000 in
theorem kX1_step (X : q_X) (l : Launch) (w : q_W) : q_Ct X S_C l mX1_step 3 q_tV [.ref 31] w (fX1_step w) := by
  refine q_intro (lv := [(0, .ref 31)]) (by decide +kernel) rfl (Nat.le_of_ble_eq_true rfl) rfl ?_
  refine q_aload_n 0 eX1_step_0 rfl rfl ?_
  refine q_callVI (As := []) (st := []) eX1_step_1 cv_1_76 (kX1_nextWord X l w) tC_31 rfl (by decide) rfl rfl (Nat.le_of_ble_eq_true rfl) (by decide) (fun r1 w2 => ?_)
  refine q_istore_n (lv' := [(1, .int r1), (0, .ref 31)]) eX1_step_4 rfl (by decide) rfl ?_
  refine q_iload_n 0 eX1_step_5 rfl rfl ?_
  refine q_ite (fun c3 => ?_) (fun c3 => ?_)
  · refine q_tabIn (off := 177) (tgt := 183) eX1_step_6 (by rw [c3]; decide) (by rw [c3]; decide) (by rw [c3]; rfl) (by decide) ?_
    refine q_aload_n 1 eX1_step_183 rfl rfl ?_
    refine q_callVV (As := []) (st := []) eX1_step_184 cv_1_99 (kX1_leave X l w2) tC_31 rfl (by decide) rfl rfl (Nat.le_of_ble_eq_true rfl) (by decide) (fun r4 w5 => ?_)
    refine q_goto (tgt := 224) eX1_step_187 (by decide) ?_
    exact q_return eX1_step_224 rfl
  refine q_ite (fun c6 => ?_) (fun c6 => ?_)
  · refine q_tabIn (off := 106) (tgt := 112) eX1_step_6 (by rw [c6]; decide) (by rw [c6]; decide) (by rw [c6]; rfl) (by decide) ?_
    exact q_sub [1] rfl (jX1_step_n112 X l w2)
  refine q_ite (fun c7 => ?_) (fun c7 => ?_)
  · refine q_tabIn (off := 117) (tgt := 123) eX1_step_6 (by rw [c7]; decide) (by rw [c7]; decide) (by rw [c7]; rfl) (by decide) ?_
    refine q_aload_n 1 eX1_step_123 rfl rfl ?_
    refine q_aload_n 1 eX1_step_124 rfl rfl ?_
    refine q_callVI (As := []) (st := [.ref 31]) eX1_step_125 cv_1_76 (kX1_nextWord X l w2) tC_31 rfl (by decide) rfl rfl (Nat.le_of_ble_eq_true rfl) (by decide) (fun r8 w9 => ?_)
    refine q_callVV (As := [.int r8]) (st := []) eX1_step_128 cv_1_84 (kX1_push X l r8 w9) tC_31 rfl (by decide) rfl rfl (Nat.le_of_ble_eq_true rfl) (by decide) (fun r10 w11 => ?_)
    refine q_goto (tgt := 224) eX1_step_131 (by decide) ?_
    exact q_return eX1_step_224 rfl
  refine q_ite (fun c12 => ?_) (fun c12 => ?_)
  · refine q_tabIn (off := 128) (tgt := 134) eX1_step_6 (by rw [c12]; decide) (by rw [c12]; decide) (by rw [c12]; rfl) (by decide) ?_
    refine q_aload_n 1 eX1_step_134 rfl rfl ?_
    refine q_aload_n 1 eX1_step_135 rfl rfl ?_
    refine q_aload_n 1 eX1_step_136 rfl rfl ?_
    refine q_callVI (As := []) (st := [.ref 31, .ref 31]) eX1_step_137 cv_1_76 (kX1_nextWord X l w2) tC_31 rfl (by decide) rfl rfl (Nat.le_of_ble_eq_true rfl) (by decide) (fun r13 w14 => ?_)
    refine q_callVI (As := [.int r13]) (st := [.ref 31]) eX1_step_140 cv_1_87 (kX1_valueOf X l r13 w14) tC_31 rfl (by decide) rfl rfl (Nat.le_of_ble_eq_true rfl) (by decide) (fun r15 w16 => ?_)
    refine q_callVV (As := [.int r15]) (st := []) eX1_step_143 cv_1_84 (kX1_push X l r15 w16) tC_31 rfl (by decide) rfl rfl (Nat.le_of_ble_eq_true rfl) (by decide) (fun r17 w18 => ?_)
    refine q_goto (tgt := 224) eX1_step_146 (by decide) ?_
    exact q_return eX1_step_224 rfl
  refine q_ite (fun c19 => ?_) (fun c19 => ?_)
  · refine q_tabIn (off := 143) (tgt := 149) eX1_step_6 (by rw [c19]; decide) (by rw [c19]; decide) (by rw [c19]; rfl) (by decide) ?_
    refine q_aload_n 1 eX1_step_149 rfl rfl ?_
    refine q_aload_n 1 eX1_step_150 rfl rfl ?_
    refine q_callVI (As := []) (st := [.ref 31]) eX1_step_151 cv_1_90 (kX1_pop X l w2) tC_31 rfl (by decide) rfl rfl (Nat.le_of_ble_eq_true rfl) (by decide) (fun r20 w21 => ?_)
    refine q_ineg eX1_step_154 ?_
    refine q_callVV (As := [.int (0 - r20)]) (st := []) eX1_step_155 cv_1_84 (kX1_push X l (0 - r20) w21) tC_31 rfl (by decide) rfl rfl (Nat.le_of_ble_eq_true rfl) (by decide) (fun r22 w23 => ?_)
    refine q_goto (tgt := 224) eX1_step_158 (by decide) ?_
    exact q_return eX1_step_224 rfl
  refine q_ite (fun c24 => ?_) (fun c24 => ?_)
  · refine q_tabIn (off := 106) (tgt := 112) eX1_step_6 (by rw [c24]; decide) (by rw [c24]; decide) (by rw [c24]; rfl) (by decide) ?_
    exact q_sub [1] rfl (jX1_step_n112 X l w2)
  refine q_ite (fun c25 => ?_) (fun c25 => ?_)
  · refine q_tabIn (off := 155) (tgt := 161) eX1_step_6 (by rw [c25]; decide) (by rw [c25]; decide) (by rw [c25]; rfl) (by decide) ?_
    refine q_aload_n 1 eX1_step_161 rfl rfl ?_
    refine q_aload_n 1 eX1_step_162 rfl rfl ?_
    refine q_callVI (As := []) (st := [.ref 31]) eX1_step_163 cv_1_76 (kX1_nextWord X l w2) tC_31 rfl (by decide) rfl rfl (Nat.le_of_ble_eq_true rfl) (by decide) (fun r26 w27 => ?_)
    refine q_callVV (As := [.int r26]) (st := []) eX1_step_166 cv_1_93 (kX1_stroke X l r26 w27) tC_31 rfl (by decide) rfl rfl (Nat.le_of_ble_eq_true rfl) (by decide) (fun r28 w29 => ?_)
    refine q_goto (tgt := 224) eX1_step_169 (by decide) ?_
    exact q_return eX1_step_224 rfl
  refine q_ite (fun c30 => ?_) (fun c30 => ?_)
  · refine q_tabIn (off := 166) (tgt := 172) eX1_step_6 (by rw [c30]; decide) (by rw [c30]; decide) (by rw [c30]; rfl) (by decide) ?_
    refine q_aload_n 1 eX1_step_172 rfl rfl ?_
    refine q_aload_n 1 eX1_step_173 rfl rfl ?_
    refine q_callVI (As := []) (st := [.ref 31]) eX1_step_174 cv_1_76 (kX1_nextWord X l w2) tC_31 rfl (by decide) rfl rfl (Nat.le_of_ble_eq_true rfl) (by decide) (fun r31 w32 => ?_)
    refine q_callVV (As := [.int r31]) (st := []) eX1_step_177 cv_1_96 (kX1_enter X l r31 w32) tC_31 rfl (by decide) rfl rfl (Nat.le_of_ble_eq_true rfl) (by decide) (fun r33 w34 => ?_)
    refine q_goto (tgt := 224) eX1_step_180 (by decide) ?_
    exact q_return eX1_step_224 rfl
  refine q_tabD (x := r1) (tgt := 190) eX1_step_6 (by intro z1 z2; have zc3 := lv_neT (a := 0) c3 rfl; have zc6 := lv_neT (a := 1) c6 rfl; have zc7 := lv_neT (a := 2) c7 rfl; have zc12 := lv_neT (a := 3) c12 rfl; have zc19 := lv_neT (a := 4) c19 rfl; have zc24 := lv_neT (a := 19) c24 rfl; have zc25 := lv_neT (a := 21) c25 rfl; have zc30 := lv_neT (a := 22) c30 rfl; have zz : Int32.toInt r1 = 5 ∨ Int32.toInt r1 = 6 ∨ Int32.toInt r1 = 7 ∨ Int32.toInt r1 = 8 ∨ Int32.toInt r1 = 9 ∨ Int32.toInt r1 = 10 ∨ Int32.toInt r1 = 11 ∨ Int32.toInt r1 = 12 ∨ Int32.toInt r1 = 13 ∨ Int32.toInt r1 = 14 ∨ Int32.toInt r1 = 15 ∨ Int32.toInt r1 = 16 ∨ Int32.toInt r1 = 17 ∨ Int32.toInt r1 = 18 ∨ Int32.toInt r1 = 20 := (by omega); rcases zz with z | z | z | z | z | z | z | z | z | z | z | z | z | z | z <;> (rw [z]; rfl)) (by decide) ?_
  exact q_sub [1, 0] rfl (jX1_step_n190 X l r1 w2)
def fX1_perform_h73 (q1 : Nat) (q5 : Nat) (rec73 : Int32 → q_W → Option (Int32 × q_W)) (x6 : Int32) (w : q_W) : Option (Int32 × q_W) :=
  if 10000000 ≤ x6 then
    some ((w.1 31 12), w)
  else
    if (w.1 31 13) = 0 then
      q_b (fX1_step w) fun r1 w2 =>
      q_lt (x6 + 1) fun y3 =>
      rec73 y3 w2
    else
      some ((w.1 31 12), w)
def fX1_perform_l73 (q1 : Nat) (q5 : Nat) : Int32 → q_W → Option (Int32 × q_W) := q_it q_N (fX1_perform_h73 q1 q5) (fun _ _ => none)
set_option maxHeartbeats 4000000 in
set_option maxRecDepth 100000 in
theorem jX1_perform_h73 (X : q_X) (l : Launch) (q1 : Nat) (q5 : Nat) (h1 : cC q1 = 4) (h5 : cC q5 = 6) (rec73 : Int32 → q_W → Option (Int32 × q_W)) (hr73 : ∀ x6 w, q_J X S_C l mX1_perform 4 q_tI 73 [(0, .ref 31), (6, .int x6)] [] w (rec73 x6 w)) : ∀ x6 w, q_J X S_C l mX1_perform 4 q_tI 73 [(0, .ref 31), (6, .int x6)] [] w (fX1_perform_h73 q1 q5 rec73 x6 w) := by
  intro x6 w
  refine q_iload 1 eX1_perform_73 rfl ?_
  refine q_ldc eX1_perform_75 kc_1_69 ?_
  refine q_icmp_ge (tgt := 97) eX1_perform_77 (by decide) (fun _ => ?_) (fun _ => ?_)
  · refine q_aload_n 0 eX1_perform_97 rfl rfl ?_
    refine q_getI eX1_perform_98 fl_1_54 tC_31 rfl ?_
    exact q_ireturn eX1_perform_101 rfl
  · refine q_aload_n 0 eX1_perform_80 rfl rfl ?_
    refine q_getI eX1_perform_81 fl_1_61 tC_31 rfl ?_
    refine q_if_ne (tgt := 97) eX1_perform_84 (by decide) (fun _ => ?_) (fun _ => ?_)
    · refine q_aload_n 0 eX1_perform_87 rfl rfl ?_
      refine q_callVV (As := []) (st := []) eX1_perform_88 cv_1_70 (kX1_step X l w) tC_31 rfl (by decide) rfl rfl (Nat.le_of_ble_eq_true rfl) (by decide) (fun r1 w2 => ?_)
      refine q_ltE (fun y3 hy3 => ?_)
      refine q_iinc (v := y3) (lv' := [(6, .int y3), (0, .ref 31)]) 1 eX1_perform_91 rfl hy3 (by decide) rfl ?_
      refine q_goto (tgt := 73) eX1_perform_94 (by decide) ?_
      exact q_sub [1, 0] rfl (hr73 y3 w2)
    · refine q_aload_n 0 eX1_perform_97 rfl rfl ?_
      refine q_getI eX1_perform_98 fl_1_54 tC_31 rfl ?_
      exact q_ireturn eX1_perform_101 rfl
set_option maxHeartbeats 4000000 in
set_option maxRecDepth 100000 in
theorem jX1_perform_l73 (X : q_X) (l : Launch) (q1 : Nat) (q5 : Nat) (h1 : cC q1 = 4) (h5 : cC q5 = 6) : ∀ x6 w, q_J X S_C l mX1_perform 4 q_tI 73 [(0, .ref 31), (6, .int x6)] [] w (fX1_perform_l73 q1 q5 x6 w) := by
  exact q_it_ind (fun rc => ∀ x6 w, q_J X S_C l mX1_perform 4 q_tI 73 [(0, .ref 31), (6, .int x6)] [] w (rc x6 w)) _ _ (fun _ _ => q_none) (fun rc hrc => jX1_perform_h73 X l q1 q5 h1 h5 rc hrc) q_N
def fX1_perform_n54 (q1 : Nat) (q5 : Nat) (x3 : Int32) (x4 : Int32) (s0 : Int32) (w : q_W) : Option (Int32 × q_W) :=
  if s0 = 0 ∨ s0 = 1 then
  q_lt (q_sI w 31 13 s0) fun w1 =>
  q_b (fX1_setValue 0 x3 w1) fun r3 w4 =>
  q_b (fX1_setValue 1 x4 w4) fun r5 w6 =>
  fX1_perform_l73 q1 q5 0 w6
  else none
set_option maxHeartbeats 4000000 in
set_option maxRecDepth 100000 in
theorem jX1_perform_n54 (X : q_X) (l : Launch) (q1 : Nat) (q5 : Nat) (h1 : cC q1 = 4) (h5 : cC q5 = 6) (x3 : Int32) (x4 : Int32) (s0 : Int32) (w : q_W) : q_J X S_C l mX1_perform 4 q_tI 54 [(0, .ref 31), (3, .int x3), (4, .int x4)] [.int s0, .ref 31] w (fX1_perform_n54 q1 q5 x3 x4 s0 w) := by
  refine q_ck (fun b2 => ?_)
  refine q_putI eX1_perform_54 fp_1_61 tC_31 rfl (q_nb b2) ?_
  refine q_ltW (fun w1 => ?_)
  refine q_aload_n 0 eX1_perform_57 rfl rfl ?_
  refine q_iconst eX1_perform_58 kiconst_0 ?_
  refine q_iload_n 1 eX1_perform_59 rfl rfl ?_
  refine q_callVV (As := [.int 0, .int x3]) (st := []) eX1_perform_60 cv_1_65 (kX1_setValue X l 0 x3 w1) tC_31 rfl (by decide) rfl rfl (Nat.le_of_ble_eq_true rfl) (by decide) (fun r3 w4 => ?_)
  refine q_aload_n 0 eX1_perform_63 rfl rfl ?_
  refine q_iconst eX1_perform_64 kiconst_1 ?_
  refine q_iload 2 eX1_perform_65 rfl ?_
  refine q_callVV (As := [.int 1, .int x4]) (st := []) eX1_perform_67 cv_1_65 (kX1_setValue X l 1 x4 w4) tC_31 rfl (by decide) rfl rfl (Nat.le_of_ble_eq_true rfl) (by decide) (fun r5 w6 => ?_)
  refine q_iconst eX1_perform_70 kiconst_0 ?_
  refine q_istore (lv' := [(6, .int 0), (0, .ref 31), (3, .int x3), (4, .int x4)]) eX1_perform_71 (by decide) rfl ?_
  exact q_sub [1, 0] rfl (jX1_perform_l73 X l q1 q5 h1 h5 0 w6)
def fX1_perform (q1 : Nat) (a2 : Int32) (a3 : Int32) (a4 : Int32) (q5 : Nat) (w : q_W) : Option (Int32 × q_W) :=
  if cC q1 = 4 then
  if cC q5 = 6 then
  q_lt (q_sR w 31 5 q1) fun w1 =>
  q_lt (q_sR w1 31 6 q5) fun w2 =>
  q_b (fX4_startOf q1 a2 w2) fun r3 w4 =>
  q_lt (q_sI w4 31 7 r3) fun w5 =>
  q_lt (q_sI w5 31 8 0) fun w6 =>
  q_lt (q_sI w6 31 9 0) fun w7 =>
  q_lt (q_sI w7 31 10 0) fun w8 =>
  q_lt (q_sI w8 31 12 0) fun w9 =>
  q_b (fX4_has q1 a2 w9) fun r10 w11 =>
  if r10 = 0 then
    fX1_perform_n54 q1 q5 a3 a4 1 w11
  else
    fX1_perform_n54 q1 q5 a3 a4 0 w11
  else none
  else none
set_option maxHeartbeats 4000000 in
set_option maxRecDepth 100000 in
theorem kX1_perform (X : q_X) (l : Launch) (q1 : Nat) (a2 : Int32) (a3 : Int32) (a4 : Int32) (q5 : Nat) (w : q_W) : q_Ct X S_C l mX1_perform 4 q_tI [.ref 31, .ref q1, .int a2, .int a3, .int a4, .ref q5] w (fX1_perform q1 a2 a3 a4 q5 w) := by
  refine q_intro (lv := [(0, .ref 31), (1, .ref q1), (2, .int a2), (3, .int a3), (4, .int a4), (5, .ref q5)]) (by decide +kernel) rfl (Nat.le_of_ble_eq_true rfl) rfl ?_
  refine q_ck (fun h1 => ?_)
  refine q_ck (fun h5 => ?_)
  refine q_aload_n 0 eX1_perform_0 rfl rfl ?_
  refine q_aload_n 1 eX1_perform_1 rfl rfl ?_
  refine q_putR eX1_perform_2 fp_1_29 tC_31 rfl ⟨rfl, rfl⟩ ?_
  refine q_ltW (fun w1 => ?_)
  refine q_aload_n 0 eX1_perform_5 rfl rfl ?_
  refine q_aload 5 eX1_perform_6 rfl ?_
  refine q_putR eX1_perform_8 fp_1_33 tC_31 rfl ⟨rfl, rfl⟩ ?_
  refine q_ltW (fun w2 => ?_)
  refine q_aload_n 0 eX1_perform_11 rfl rfl ?_
  refine q_aload_n 1 eX1_perform_12 rfl rfl ?_
  refine q_iload_n 2 eX1_perform_13 rfl rfl ?_
  refine q_callVI (As := [.int a2]) (st := [.ref 31]) eX1_perform_14 cv_1_37 (kX4_startOf X l q1 a2 w2) h1 rfl (by decide) rfl rfl (Nat.le_of_ble_eq_true rfl) (by decide) (fun r3 w4 => ?_)
  refine q_putI eX1_perform_17 fp_1_41 tC_31 rfl ⟨rfl, rfl⟩ ?_
  refine q_ltW (fun w5 => ?_)
  refine q_aload_n 0 eX1_perform_20 rfl rfl ?_
  refine q_iconst eX1_perform_21 kiconst_0 ?_
  refine q_putI eX1_perform_22 fp_1_45 tC_31 rfl ⟨rfl, rfl⟩ ?_
  refine q_ltW (fun w6 => ?_)
  refine q_aload_n 0 eX1_perform_25 rfl rfl ?_
  refine q_iconst eX1_perform_26 kiconst_0 ?_
  refine q_putI eX1_perform_27 fp_1_48 tC_31 rfl ⟨rfl, rfl⟩ ?_
  refine q_ltW (fun w7 => ?_)
  refine q_aload_n 0 eX1_perform_30 rfl rfl ?_
  refine q_iconst eX1_perform_31 kiconst_0 ?_
  refine q_putI eX1_perform_32 fp_1_51 tC_31 rfl ⟨rfl, rfl⟩ ?_
  refine q_ltW (fun w8 => ?_)
  refine q_aload_n 0 eX1_perform_35 rfl rfl ?_
  refine q_iconst eX1_perform_36 kiconst_0 ?_
  refine q_putI eX1_perform_37 fp_1_54 tC_31 rfl ⟨rfl, rfl⟩ ?_
  refine q_ltW (fun w9 => ?_)
  refine q_aload_n 0 eX1_perform_40 rfl rfl ?_
  refine q_aload_n 1 eX1_perform_41 rfl rfl ?_
  refine q_iload_n 2 eX1_perform_42 rfl rfl ?_
  refine q_callVI (As := [.int a2]) (st := [.ref 31]) eX1_perform_43 cv_1_57 (kX4_has X l q1 a2 w9) h1 rfl (by decide) rfl rfl (Nat.le_of_ble_eq_true rfl) (by decide) (fun r10 w11 => ?_)
  refine q_if_ne (tgt := 53) eX1_perform_46 (by decide) (fun _ => ?_) (fun _ => ?_)
  · refine q_iconst eX1_perform_49 kiconst_1 ?_
    refine q_goto (tgt := 54) eX1_perform_50 (by decide) ?_
    exact q_sub [0, 3, 4] rfl (jX1_perform_n54 X l q1 q5 h1 h5 a3 a4 1 w11)
  · refine q_iconst eX1_perform_53 kiconst_0 ?_
    exact q_sub [0, 3, 4] rfl (jX1_perform_n54 X l q1 q5 h1 h5 a3 a4 0 w11)
def fX1_deedPlace (w : q_W) : Option (Int32 × q_W) :=
  some ((w.1 31 11), w)
set_option maxHeartbeats 4000000 in
set_option maxRecDepth 100000 in
theorem kX1_deedPlace (X : q_X) (l : Launch) (w : q_W) : q_Ct X S_C l mX1_deedPlace 0 q_tI [.ref 31] w (fX1_deedPlace w) := by
  refine q_intro (lv := [(0, .ref 31)]) (by decide +kernel) rfl (Nat.le_of_ble_eq_true rfl) rfl ?_
  refine q_aload_n 0 eX1_deedPlace_0 rfl rfl ?_
  refine q_getI eX1_deedPlace_1 fl_1_73 tC_31 rfl ?_
  exact q_ireturn eX1_deedPlace_4 rfl
def fX1_deedsDone (w : q_W) : Option (Int32 × q_W) :=
  some ((w.1 31 10), w)
set_option maxHeartbeats 4000000 in
set_option maxRecDepth 100000 in
theorem kX1_deedsDone (X : q_X) (l : Launch) (w : q_W) : q_Ct X S_C l mX1_deedsDone 0 q_tI [.ref 31] w (fX1_deedsDone w) := by
  refine q_intro (lv := [(0, .ref 31)]) (by decide +kernel) rfl (Nat.le_of_ble_eq_true rfl) rfl ?_
  refine q_aload_n 0 eX1_deedsDone_0 rfl rfl ?_
  refine q_getI eX1_deedsDone_1 fl_1_51 tC_31 rfl ?_
  exact q_ireturn eX1_deedsDone_4 rfl
def fX2_facts (w : q_W) : Option (Nat × q_W) :=
  some (4, w)
set_option maxHeartbeats 4000000 in
set_option maxRecDepth 100000 in
theorem kX2_facts (X : q_X) (l : Launch) (w : q_W) : q_Ct X S_C l mX2_facts 0 q_tR [.ref 3] w (fX2_facts w) := by
  refine q_intro (lv := [(0, .ref 3)]) (by decide +kernel) rfl (Nat.le_of_ble_eq_true rfl) rfl ?_
  refine q_aload_n 0 eX2_facts_0 rfl rfl ?_
  refine q_getG (v := 4) eX2_facts_1 fl_2_12 tC_3 rfl gC_3_0 ?_
  exact q_areturn eX2_facts_4 rfl (Or.inl ⟨_, rfl⟩)
def fX6_size (q0 : Nat) (w : q_W) : Option (Int32 × q_W) :=
  if cC q0 = 6 then
  some ((w.1 q0 2), w)
  else none
set_option maxHeartbeats 4000000 in
set_option maxRecDepth 100000 in
theorem kX6_size (X : q_X) (l : Launch) (q0 : Nat) (w : q_W) : q_Ct X S_C l mX6_size 0 q_tI [.ref q0] w (fX6_size q0 w) := by
  refine q_intro (lv := [(0, .ref q0)]) (by decide +kernel) rfl (Nat.le_of_ble_eq_true rfl) rfl ?_
  refine q_ck (fun h0 => ?_)
  refine q_aload_n 0 eX6_size_0 rfl rfl ?_
  refine q_getI eX6_size_1 fl_6_22 h0 rfl ?_
  exact q_ireturn eX6_size_4 rfl
def fX2_size (w : q_W) : Option (Int32 × q_W) :=
  q_b (fX6_size 4 w) fun r1 w2 =>
  some (r1, w2)
set_option maxHeartbeats 4000000 in
set_option maxRecDepth 100000 in
theorem kX2_size (X : q_X) (l : Launch) (w : q_W) : q_Ct X S_C l mX2_size 1 q_tI [.ref 3] w (fX2_size w) := by
  refine q_intro (lv := [(0, .ref 3)]) (by decide +kernel) rfl (Nat.le_of_ble_eq_true rfl) rfl ?_
  refine q_aload_n 0 eX2_size_0 rfl rfl ?_
  refine q_getG (v := 4) eX2_size_1 fl_2_12 tC_3 rfl gC_3_0 ?_
  refine q_callVI (As := []) (st := []) eX2_size_4 cv_2_30 (kX6_size X l 4 w) tC_4 rfl (by decide) rfl rfl (Nat.le_of_ble_eq_true rfl) (by decide) (fun r1 w2 => ?_)
  exact q_ireturn eX2_size_7 rfl
def fX6_roomLeft (q0 : Nat) (w : q_W) : Option (Int32 × q_W) :=
  if cC q0 = 6 then
  some (((w.1 q0 3) - (w.1 q0 2)), w)
  else none
set_option maxHeartbeats 4000000 in
set_option maxRecDepth 100000 in
theorem kX6_roomLeft (X : q_X) (l : Launch) (q0 : Nat) (w : q_W) : q_Ct X S_C l mX6_roomLeft 0 q_tI [.ref q0] w (fX6_roomLeft q0 w) := by
  refine q_intro (lv := [(0, .ref q0)]) (by decide +kernel) rfl (Nat.le_of_ble_eq_true rfl) rfl ?_
  refine q_ck (fun h0 => ?_)
  refine q_aload_n 0 eX6_roomLeft_0 rfl rfl ?_
  refine q_getI eX6_roomLeft_1 fl_6_18 h0 rfl ?_
  refine q_aload_n 0 eX6_roomLeft_4 rfl rfl ?_
  refine q_getI eX6_roomLeft_5 fl_6_22 h0 rfl ?_
  refine q_isub eX6_roomLeft_8 ?_
  exact q_ireturn eX6_roomLeft_9 rfl
def fX2_roomLeft (w : q_W) : Option (Int32 × q_W) :=
  q_b (fX6_roomLeft 4 w) fun r1 w2 =>
  some (r1, w2)
set_option maxHeartbeats 4000000 in
set_option maxRecDepth 100000 in
theorem kX2_roomLeft (X : q_X) (l : Launch) (w : q_W) : q_Ct X S_C l mX2_roomLeft 1 q_tI [.ref 3] w (fX2_roomLeft w) := by
  refine q_intro (lv := [(0, .ref 3)]) (by decide +kernel) rfl (Nat.le_of_ble_eq_true rfl) rfl ?_
  refine q_aload_n 0 eX2_roomLeft_0 rfl rfl ?_
  refine q_getG (v := 4) eX2_roomLeft_1 fl_2_12 tC_3 rfl gC_3_0 ?_
  refine q_callVI (As := []) (st := []) eX2_roomLeft_4 cv_2_34 (kX6_roomLeft X l 4 w) tC_4 rfl (by decide) rfl rfl (Nat.le_of_ble_eq_true rfl) (by decide) (fun r1 w2 => ?_)
  exact q_ireturn eX2_roomLeft_7 rfl
def fX2_has (a1 : Int32) (w : q_W) : Option (Int32 × q_W) :=
  if a1 < 0 then
    some (0, w)
  else
    q_b (fX6_size 4 w) fun r1 w2 =>
    if r1 ≤ a1 then
      some (0, w2)
    else
      some (1, w2)
set_option maxHeartbeats 4000000 in
set_option maxRecDepth 100000 in
theorem kX2_has (X : q_X) (l : Launch) (a1 : Int32) (w : q_W) : q_Ct X S_C l mX2_has 1 q_tI [.ref 3, .int a1] w (fX2_has a1 w) := by
  refine q_intro (lv := [(0, .ref 3), (1, .int a1)]) (by decide +kernel) rfl (Nat.le_of_ble_eq_true rfl) rfl ?_
  refine q_iload_n 1 eX2_has_0 rfl rfl ?_
  refine q_if_lt (tgt := 19) eX2_has_1 (by decide) (fun _ => ?_) (fun _ => ?_)
  · refine q_iconst eX2_has_19 kiconst_0 ?_
    exact q_zret eX2_has_20 rfl rfl
  · refine q_iload_n 1 eX2_has_4 rfl rfl ?_
    refine q_aload_n 0 eX2_has_5 rfl rfl ?_
    refine q_getG (v := 4) eX2_has_6 fl_2_12 tC_3 rfl gC_3_0 ?_
    refine q_callVI (As := []) (st := [.int a1]) eX2_has_9 cv_2_30 (kX6_size X l 4 w) tC_4 rfl (by decide) rfl rfl (Nat.le_of_ble_eq_true rfl) (by decide) (fun r1 w2 => ?_)
    refine q_icmp_ge (tgt := 19) eX2_has_12 (by decide) (fun _ => ?_) (fun _ => ?_)
    · refine q_iconst eX2_has_19 kiconst_0 ?_
      exact q_zret eX2_has_20 rfl rfl
    · refine q_iconst eX2_has_15 kiconst_1 ?_
      refine q_goto (tgt := 20) eX2_has_16 (by decide) ?_
      exact q_zret eX2_has_20 rfl rfl
def fX2_knows (a1 : Int32) (w : q_W) : Option (Int32 × q_W) :=
  if a1 < 0 then
    some (0, w)
  else
    q_b (fX6_size 4 w) fun r1 w2 =>
    if r1 < a1 then
      some (0, w2)
    else
      some (1, w2)
set_option maxHeartbeats 4000000 in
set_option maxRecDepth 100000 in
theorem kX2_knows (X : q_X) (l : Launch) (a1 : Int32) (w : q_W) : q_Ct X S_C l mX2_knows 1 q_tI [.ref 3, .int a1] w (fX2_knows a1 w) := by
  refine q_intro (lv := [(0, .ref 3), (1, .int a1)]) (by decide +kernel) rfl (Nat.le_of_ble_eq_true rfl) rfl ?_
  refine q_iload_n 1 eX2_knows_0 rfl rfl ?_
  refine q_if_lt (tgt := 19) eX2_knows_1 (by decide) (fun _ => ?_) (fun _ => ?_)
  · refine q_iconst eX2_knows_19 kiconst_0 ?_
    exact q_zret eX2_knows_20 rfl rfl
  · refine q_iload_n 1 eX2_knows_4 rfl rfl ?_
    refine q_aload_n 0 eX2_knows_5 rfl rfl ?_
    refine q_getG (v := 4) eX2_knows_6 fl_2_12 tC_3 rfl gC_3_0 ?_
    refine q_callVI (As := []) (st := [.int a1]) eX2_knows_9 cv_2_30 (kX6_size X l 4 w) tC_4 rfl (by decide) rfl rfl (Nat.le_of_ble_eq_true rfl) (by decide) (fun r1 w2 => ?_)
    refine q_icmp_gt (tgt := 19) eX2_knows_12 (by decide) (fun _ => ?_) (fun _ => ?_)
    · refine q_iconst eX2_knows_19 kiconst_0 ?_
      exact q_zret eX2_knows_20 rfl rfl
    · refine q_iconst eX2_knows_15 kiconst_1 ?_
      refine q_goto (tgt := 20) eX2_knows_16 (by decide) ?_
      exact q_zret eX2_knows_20 rfl rfl
