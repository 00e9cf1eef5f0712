/-! methods, printed by program: X0_goForth X1_setValue X1_breakOff X1_push X1_divide X1_combine X1_pop X4_has X4_needs X4_startOf X1_enter X1_leave X4_wordAt X1_nextWord X1_startDeed X6_isFull X6_add X6_numbersOf X6_fits X1_stroke X1_nextTurn X1_settle X1_startLoop X1_turn -/
def fX0_goForth_n87 (w : q_W) : Option (Int32 × q_W) :=
  q_b (fX0_isPoint (w.1 12 4) (w.1 12 5) w) fun r1 w2 =>
  if r1 = 0 ∨ r1 = 1 then some (r1, w2) else none
set_option maxHeartbeats 4000000 in
set_option maxRecDepth 100000 in
theorem jX0_goForth_n87 (X : q_X) (l : Launch) (w : q_W) : q_J X S_C l mX0_goForth 2 q_tI 87 [(0, .ref 12)] [] w (fX0_goForth_n87 w) := by
  refine q_aload_n 0 eX0_goForth_87 rfl rfl ?_
  refine q_getI eX0_goForth_88 fl_0_32 tC_12 rfl ?_
  refine q_aload_n 0 eX0_goForth_91 rfl rfl ?_
  refine q_getI eX0_goForth_92 fl_0_35 tC_12 rfl ?_
  refine q_callSI (As := [.int (w.1 12 4), .int (w.1 12 5)]) (st := []) eX0_goForth_95 cv_0_46 (kX0_isPoint X l (w.1 12 4) (w.1 12 5) w) rfl rfl (Nat.le_of_ble_eq_true rfl) (by decide) (fun r1 w2 => ?_)
  exact q_ck (fun h => q_zret eX0_goForth_98 rfl (q_nb h).1)
def fX0_goForth_n81 (rec12 : Int32 → q_W → Option (Int32 × q_W)) (x3 : Int32) (w : q_W) : Option (Int32 × q_W) :=
  q_lt (x3 + 1) fun y1 =>
  rec12 y1 w
set_option maxHeartbeats 4000000 in
set_option maxRecDepth 100000 in
theorem jX0_goForth_n81 (X : q_X) (l : Launch) (rec12 : Int32 → q_W → Option (Int32 × q_W)) (hr12 : ∀ x3 w, q_J X S_C l mX0_goForth 2 q_tI 12 [(0, .ref 12), (3, .int x3)] [] w (rec12 x3 w)) (x3 : Int32) (w : q_W) : q_J X S_C l mX0_goForth 2 q_tI 81 [(0, .ref 12), (3, .int x3)] [] w (fX0_goForth_n81 rec12 x3 w) := by
  refine q_ltE (fun y1 hy1 => ?_)
  refine q_iinc (v := y1) (lv' := [(3, .int y1), (0, .ref 12)]) 1 eX0_goForth_81 rfl hy1 (by decide) rfl ?_
  refine q_goto (tgt := 12) eX0_goForth_84 (by decide) ?_
  exact q_sub [1, 0] rfl (hr12 y1 w)
def fX0_goForth_h12 (rec12 : Int32 → q_W → Option (Int32 × q_W)) (x3 : Int32) (w : q_W) : Option (Int32 × q_W) :=
  if (w.1 12 2) ≤ x3 then
    fX0_goForth_n87 w
  else
    if 120 ≤ x3 then
      fX0_goForth_n87 w
    else
      q_b (fX0_isPoint (w.1 12 4) (w.1 12 5) w) fun r1 w2 =>
      if r1 = 0 then
        fX0_goForth_n87 w2
      else
        if q_inb x3 120 then
        q_lt (w2.1 13 (q_ix x3)) fun y3 =>
        if cC (w2.2.1 12 1) = 6 then
        q_b (fX6_kindOf (w2.2.1 12 1) y3 w2) fun r5 w6 =>
        if r5 = 0 then
          q_b (fX0_makeWay y3 w6) fun r7 w8 =>
          fX0_goForth_n81 rec12 x3 w8
        else
          q_b (fX0_dragOf y3 w6) fun r9 w10 =>
          q_b (fX0_moveBy y3 r9 w10) fun r11 w12 =>
          fX0_goForth_n81 rec12 x3 w12
        else none
        else none
def fX0_goForth_l12 : Int32 → q_W → Option (Int32 × q_W) := q_it q_N (fX0_goForth_h12) (fun _ _ => none)
set_option maxHeartbeats 4000000 in
set_option maxRecDepth 100000 in
theorem jX0_goForth_h12 (X : q_X) (l : Launch) (rec12 : Int32 → q_W → Option (Int32 × q_W)) (hr12 : ∀ x3 w, q_J X S_C l mX0_goForth 2 q_tI 12 [(0, .ref 12), (3, .int x3)] [] w (rec12 x3 w)) : ∀ x3 w, q_J X S_C l mX0_goForth 2 q_tI 12 [(0, .ref 12), (3, .int x3)] [] w (fX0_goForth_h12 rec12 x3 w) := by
  intro x3 w
  refine q_iload_n 1 eX0_goForth_12 rfl rfl ?_
  refine q_aload_n 0 eX0_goForth_13 rfl rfl ?_
  refine q_getI eX0_goForth_14 fl_0_19 tC_12 rfl ?_
  refine q_icmp_ge (tgt := 87) eX0_goForth_17 (by decide) (fun _ => ?_) (fun _ => ?_)
  · exact q_sub [0] rfl (jX0_goForth_n87 X l w)
  · refine q_iload_n 1 eX0_goForth_20 rfl rfl ?_
    refine q_bipush eX0_goForth_21 kbipush_120 ?_
    refine q_icmp_ge (tgt := 87) eX0_goForth_23 (by decide) (fun _ => ?_) (fun _ => ?_)
    · exact q_sub [0] rfl (jX0_goForth_n87 X l w)
    · refine q_aload_n 0 eX0_goForth_26 rfl rfl ?_
      refine q_getI eX0_goForth_27 fl_0_32 tC_12 rfl ?_
      refine q_aload_n 0 eX0_goForth_30 rfl rfl ?_
      refine q_getI eX0_goForth_31 fl_0_35 tC_12 rfl ?_
      refine q_callSI (As := [.int (w.1 12 4), .int (w.1 12 5)]) (st := []) eX0_goForth_34 cv_0_46 (kX0_isPoint X l (w.1 12 4) (w.1 12 5) w) rfl rfl (Nat.le_of_ble_eq_true rfl) (by decide) (fun r1 w2 => ?_)
      refine q_if_eq (tgt := 87) eX0_goForth_37 (by decide) (fun _ => ?_) (fun _ => ?_)
      · exact q_sub [0] rfl (jX0_goForth_n87 X l w2)
      · refine q_aload_n 0 eX0_goForth_40 rfl rfl ?_
        refine q_getG (v := 13) eX0_goForth_41 fl_0_11 tC_12 rfl gC_12_0 ?_
        refine q_iload_n 1 eX0_goForth_44 rfl rfl ?_
        refine q_iald eX0_goForth_45 tC_13 nC_13 ?_
        refine q_ltI (fun y3 => ?_)
        refine q_istore (lv' := [(4, .int y3), (0, .ref 12), (3, .int x3)]) eX0_goForth_46 (by decide) rfl ?_
        refine q_aload_n 1 eX0_goForth_48 rfl rfl ?_
        refine q_getR eX0_goForth_49 fl_0_15 tC_12 rfl ?_
        refine q_ck (fun g4 => ?_)
        refine q_iload 0 eX0_goForth_52 rfl ?_
        refine q_callVI (As := [.int y3]) (st := []) eX0_goForth_54 cv_0_50 (kX6_kindOf X l (w2.2.1 12 1) y3 w2) g4 rfl (by decide) rfl rfl (Nat.le_of_ble_eq_true rfl) (by decide) (fun r5 w6 => ?_)
        refine q_if_ne (tgt := 69) eX0_goForth_57 (by decide) (fun _ => ?_) (fun _ => ?_)
        · refine q_aload_n 1 eX0_goForth_60 rfl rfl ?_
          refine q_iload 0 eX0_goForth_61 rfl ?_
          refine q_callVV (As := [.int y3]) (st := []) eX0_goForth_63 cv_0_65 (kX0_makeWay X l y3 w6) tC_12 rfl (by decide) rfl rfl (Nat.le_of_ble_eq_true rfl) (by decide) (fun r7 w8 => ?_)
          refine q_goto (tgt := 81) eX0_goForth_66 (by decide) ?_
          exact q_sub [1, 2] rfl (jX0_goForth_n81 X l rec12 hr12 x3 w8)
        · refine q_aload_n 1 eX0_goForth_69 rfl rfl ?_
          refine q_iload 0 eX0_goForth_70 rfl ?_
          refine q_aload_n 1 eX0_goForth_72 rfl rfl ?_
          refine q_iload 0 eX0_goForth_73 rfl ?_
          refine q_callVI (As := [.int y3]) (st := [.int y3, .ref 12]) eX0_goForth_75 cv_0_54 (kX0_dragOf X l y3 w6) tC_12 rfl (by decide) rfl rfl (Nat.le_of_ble_eq_true rfl) (by decide) (fun r9 w10 => ?_)
          refine q_callVV (As := [.int y3, .int r9]) (st := []) eX0_goForth_78 cv_0_57 (kX0_moveBy X l y3 r9 w10) tC_12 rfl (by decide) rfl rfl (Nat.le_of_ble_eq_true rfl) (by decide) (fun r11 w12 => ?_)
          exact q_sub [1, 2] rfl (jX0_goForth_n81 X l rec12 hr12 x3 w12)
set_option maxHeartbeats 4000000 in
set_option maxRecDepth 100000 in
theorem jX0_goForth_l12 (X : q_X) (l : Launch) : ∀ x3 w, q_J X S_C l mX0_goForth 2 q_tI 12 [(0, .ref 12), (3, .int x3)] [] w (fX0_goForth_l12 x3 w) := by
  exact q_it_ind (fun rc => ∀ x3 w, q_J X S_C l mX0_goForth 2 q_tI 12 [(0, .ref 12), (3, .int x3)] [] w (rc x3 w)) _ _ (fun _ _ => q_none) (fun rc hrc => jX0_goForth_h12 X l rc hrc) q_N
def fX0_goForth (a1 : Int32) (a2 : Int32) (w : q_W) : Option (Int32 × q_W) :=
  q_lt (q_sI w 12 4 a1) fun w1 =>
  q_lt (q_sI w1 12 5 a2) fun w2 =>
  fX0_goForth_l12 0 w2
set_option maxHeartbeats 4000000 in
set_option maxRecDepth 100000 in
theorem kX0_goForth (X : q_X) (l : Launch) (a1 : Int32) (a2 : Int32) (w : q_W) : q_Ct X S_C l mX0_goForth 2 q_tI [.ref 12, .int a1, .int a2] w (fX0_goForth a1 a2 w) := by
  refine q_intro (lv := [(0, .ref 12), (1, .int a1), (2, .int a2)]) (by decide +kernel) rfl (Nat.le_of_ble_eq_true rfl) rfl ?_
  refine q_aload_n 0 eX0_goForth_0 rfl rfl ?_
  refine q_iload_n 1 eX0_goForth_1 rfl rfl ?_
  refine q_putI eX0_goForth_2 fp_0_32 tC_12 rfl ⟨rfl, rfl⟩ ?_
  refine q_ltW (fun w1 => ?_)
  refine q_aload_n 0 eX0_goForth_5 rfl rfl ?_
  refine q_iload_n 2 eX0_goForth_6 rfl rfl ?_
  refine q_putI eX0_goForth_7 fp_0_35 tC_12 rfl ⟨rfl, rfl⟩ ?_
  refine q_ltW (fun w2 => ?_)
  refine q_iconst eX0_goForth_10 kiconst_0 ?_
  refine q_istore_n (lv' := [(3, .int 0), (0, .ref 12), (1, .int a1), (2, .int a2)]) eX0_goForth_11 rfl (by decide) rfl ?_
  exact q_sub [1, 0] rfl (jX0_goForth_l12 X l 0 w2)
def fX1_setValue (a1 : Int32) (a2 : Int32) (w : q_W) : Option (Unit × q_W) :=
  q_lt (((w.1 31 9) * 8) + a1) fun y1 =>
  if y1 < 0 then
    some ((), w)
  else
    if 64 ≤ y1 then
      some ((), w)
    else
      if q_inb y1 64 then
      q_lt (q_sI w 33 (q_ix y1) a2) fun w2 =>
      some ((), w2)
      else none
set_option maxHeartbeats 4000000 in
set_option maxRecDepth 100000 in
theorem kX1_setValue (X : q_X) (l : Launch) (a1 : Int32) (a2 : Int32) (w : q_W) : q_Ct X S_C l mX1_setValue 0 q_tV [.ref 31, .int a1, .int a2] w (fX1_setValue a1 a2 w) := by
  refine q_intro (lv := [(0, .ref 31), (1, .int a1), (2, .int a2)]) (by decide +kernel) rfl (Nat.le_of_ble_eq_true rfl) rfl ?_
  refine q_aload_n 0 eX1_setValue_0 rfl rfl ?_
  refine q_getI eX1_setValue_1 fl_1_48 tC_31 rfl ?_
  refine q_bipush eX1_setValue_4 kbipush_8 ?_
  refine q_imul eX1_setValue_6 ?_
  refine q_iload_n 1 eX1_setValue_7 rfl rfl ?_
  refine q_iadd eX1_setValue_8 ?_
  refine q_ltI (fun y1 => ?_)
  refine q_istore_n (lv' := [(3, .int y1), (0, .ref 31), (1, .int a1), (2, .int a2)]) eX1_setValue_9 rfl (by decide) rfl ?_
  refine q_iload_n 0 eX1_setValue_10 rfl rfl ?_
  refine q_if_lt (tgt := 30) eX1_setValue_11 (by decide) (fun _ => ?_) (fun _ => ?_)
  · exact q_return eX1_setValue_30 rfl
  · refine q_iload_n 0 eX1_setValue_14 rfl rfl ?_
    refine q_aload_n 1 eX1_setValue_15 rfl rfl ?_
    refine q_getG (v := 33) eX1_setValue_16 fl_1_15 tC_31 rfl gC_31_1 ?_
    refine q_alen eX1_setValue_19 tC_33 nC_33 ?_
    refine q_icmp_ge (tgt := 30) eX1_setValue_20 (by decide) (fun _ => ?_) (fun _ => ?_)
    · exact q_return eX1_setValue_30 rfl
    · refine q_aload_n 1 eX1_setValue_23 rfl rfl ?_
      refine q_getG (v := 33) eX1_setValue_24 fl_1_15 tC_31 rfl gC_31_1 ?_
      refine q_iload_n 0 eX1_setValue_27 rfl rfl ?_
      refine q_iload_n 3 eX1_setValue_28 rfl rfl ?_
      refine q_iast eX1_setValue_29 tC_33 nC_33 ?_
      refine q_ltW (fun w2 => ?_)
      exact q_return eX1_setValue_30 rfl
def fX1_breakOff (a1 : Int32) (w : q_W) : Option (Unit × q_W) :=
  q_lt (q_sI w 31 12 a1) fun w1 =>
  q_lt (q_sI w1 31 13 1) fun w2 =>
  some ((), w2)
set_option maxHeartbeats 4000000 in
set_option maxRecDepth 100000 in
theorem kX1_breakOff (X : q_X) (l : Launch) (a1 : Int32) (w : q_W) : q_Ct X S_C l mX1_breakOff 0 q_tV [.ref 31, .int a1] w (fX1_breakOff a1 w) := by
  refine q_intro (lv := [(0, .ref 31), (1, .int a1)]) (by decide +kernel) rfl (Nat.le_of_ble_eq_true rfl) rfl ?_
  refine q_aload_n 0 eX1_breakOff_0 rfl rfl ?_
  refine q_iload_n 1 eX1_breakOff_1 rfl rfl ?_
  refine q_putI eX1_breakOff_2 fp_1_54 tC_31 rfl ⟨rfl, rfl⟩ ?_
  refine q_ltW (fun w1 => ?_)
  refine q_aload_n 0 eX1_breakOff_5 rfl rfl ?_
  refine q_iconst eX1_breakOff_6 kiconst_1 ?_
  refine q_putI eX1_breakOff_7 fp_1_61 tC_31 rfl ⟨rfl, rfl⟩ ?_
  refine q_ltW (fun w2 => ?_)
  exact q_return eX1_breakOff_10 rfl
def fX1_push (a1 : Int32) (w : q_W) : Option (Unit × q_W) :=
  if (w.1 31 8) < 0 then
    some ((), w)
  else
    if 64 ≤ (w.1 31 8) then
      some ((), w)
    else
      q_lt (w.1 31 8) fun y1 =>
      if q_inb y1 64 then
      q_lt (q_sI w 32 (q_ix y1) a1) fun w2 =>
      q_lt (q_sI w2 31 8 ((w2.1 31 8) + 1)) fun w3 =>
      some ((), w3)
      else none
set_option maxHeartbeats 4000000 in
set_option maxRecDepth 100000 in
theorem kX1_push (X : q_X) (l : Launch) (a1 : Int32) (w : q_W) : q_Ct X S_C l mX1_push 0 q_tV [.ref 31, .int a1] w (fX1_push a1 w) := by
  refine q_intro (lv := [(0, .ref 31), (1, .int a1)]) (by decide +kernel) rfl (Nat.le_of_ble_eq_true rfl) rfl ?_
  refine q_aload_n 0 eX1_push_0 rfl rfl ?_
  refine q_getI eX1_push_1 fl_1_45 tC_31 rfl ?_
  refine q_if_lt (tgt := 36) eX1_push_4 (by decide) (fun _ => ?_) (fun _ => ?_)
  · exact q_return eX1_push_36 rfl
  · refine q_aload_n 0 eX1_push_7 rfl rfl ?_
    refine q_getI eX1_push_8 fl_1_45 tC_31 rfl ?_
    refine q_bipush eX1_push_11 kbipush_64 ?_
    refine q_icmp_ge (tgt := 36) eX1_push_13 (by decide) (fun _ => ?_) (fun _ => ?_)
    · exact q_return eX1_push_36 rfl
    · refine q_aload_n 0 eX1_push_16 rfl rfl ?_
      refine q_getG (v := 32) eX1_push_17 fl_1_11 tC_31 rfl gC_31_0 ?_
      refine q_aload_n 0 eX1_push_20 rfl rfl ?_
      refine q_getI eX1_push_21 fl_1_45 tC_31 rfl ?_
      refine q_iload_n 1 eX1_push_24 rfl rfl ?_
      refine q_ltI1 (fun y1 => ?_)
      refine q_iast eX1_push_25 tC_32 nC_32 ?_
      refine q_ltW (fun w2 => ?_)
      refine q_aload_n 0 eX1_push_26 rfl rfl ?_
      refine q_dup eX1_push_27 rfl ?_
      refine q_getI eX1_push_28 fl_1_45 tC_31 rfl ?_
      refine q_iconst eX1_push_31 kiconst_1 ?_
      refine q_iadd eX1_push_32 ?_
      refine q_putI eX1_push_33 fp_1_45 tC_31 rfl ⟨rfl, rfl⟩ ?_
      refine q_ltW (fun w3 => ?_)
      exact q_return eX1_push_36 rfl
def fX1_divide_n26 (s0 : Int32) (w : q_W) : Option (Unit × q_W) :=
  q_b (fX1_push s0 w) fun r1 w2 =>
  some ((), w2)
set_option maxHeartbeats 4000000 in
set_option maxRecDepth 100000 in
theorem jX1_divide_n26 (X : q_X) (l : Launch) (s0 : Int32) (w : q_W) : q_J X S_C l mX1_divide 1 q_tV 26 [] [.int s0, .ref 31] w (fX1_divide_n26 s0 w) := by
  refine q_callVV (As := [.int s0]) (st := []) eX1_divide_26 cv_1_84 (kX1_push X l s0 w) tC_31 rfl (by decide) rfl rfl (Nat.le_of_ble_eq_true rfl) (by decide) (fun r1 w2 => ?_)
  exact q_return eX1_divide_29 rfl
def fX1_divide (a1 : Int32) (a2 : Int32) (a3 : Int32) (w : q_W) : Option (Unit × q_W) :=
  if a3 = 0 then
    q_b (fX1_breakOff 3 w) fun r1 w2 =>
    some ((), w2)
  else
    if a1 = 8 then
      if a3 = 0 then none else
      fX1_divide_n26 (a2 / a3) w
    else
      if a3 = 0 then none else
      fX1_divide_n26 (a2 - a2 / a3 * a3) w
set_option maxHeartbeats 4000000 in
set_option maxRecDepth 100000 in
theorem kX1_divide (X : q_X) (l : Launch) (a1 : Int32) (a2 : Int32) (a3 : Int32) (w : q_W) : q_Ct X S_C l mX1_divide 1 q_tV [.ref 31, .int a1, .int a2, .int a3] w (fX1_divide a1 a2 a3 w) := by
  refine q_intro (lv := [(0, .ref 31), (1, .int a1), (2, .int a2), (3, .int a3)]) (by decide +kernel) rfl (Nat.le_of_ble_eq_true rfl) rfl ?_
  refine q_iload_n 3 eX1_divide_0 rfl rfl ?_
  refine q_if_ne (tgt := 10) eX1_divide_1 (by decide) (fun _ => ?_) (fun _ => ?_)
  · refine q_aload_n 0 eX1_divide_4 rfl rfl ?_
    refine q_iconst eX1_divide_5 kiconst_3 ?_
    refine q_callVV (As := [.int 3]) (st := []) eX1_divide_6 cv_1_112 (kX1_breakOff X l 3 w) tC_31 rfl (by decide) rfl rfl (Nat.le_of_ble_eq_true rfl) (by decide) (fun r1 w2 => ?_)
    exact q_return eX1_divide_9 rfl
  · refine q_aload_n 0 eX1_divide_10 rfl rfl ?_
    refine q_iload_n 1 eX1_divide_11 rfl rfl ?_
    refine q_bipush eX1_divide_12 kbipush_8 ?_
    refine q_icmp_ne (tgt := 23) eX1_divide_14 (by decide) (fun _ => ?_) (fun _ => ?_)
    · refine q_iload_n 2 eX1_divide_17 rfl rfl ?_
      refine q_iload_n 3 eX1_divide_18 rfl rfl ?_
      refine q_idiv eX1_divide_19 ?_
      refine q_goto (tgt := 26) eX1_divide_20 (by decide) ?_
      exact q_sub [] rfl (jX1_divide_n26 X l (a2 / a3) w)
    · refine q_iload_n 2 eX1_divide_23 rfl rfl ?_
      refine q_iload_n 3 eX1_divide_24 rfl rfl ?_
      refine q_irem eX1_divide_25 ?_
      exact q_sub [] rfl (jX1_divide_n26 X l (a2 - a2 / a3 * a3) w)
def fX1_combine_n150 (s0 : Int32) (w : q_W) : Option (Unit × q_W) :=
  q_b (fX1_push s0 w) fun r1 w2 =>
  some ((), w2)
set_option maxHeartbeats 4000000 in
set_option maxRecDepth 100000 in
theorem jX1_combine_n150 (X : q_X) (l : Launch) (s0 : Int32) (w : q_W) : q_J X S_C l mX1_combine 2 q_tV 150 [] [.int s0, .ref 31] w (fX1_combine_n150 s0 w) := by
  refine q_callVV (As := [.int s0]) (st := []) eX1_combine_150 cv_1_84 (kX1_push X l s0 w) tC_31 rfl (by decide) rfl rfl (Nat.le_of_ble_eq_true rfl) (by decide) (fun r1 w2 => ?_)
  exact q_return eX1_combine_153 rfl
def fX1_combine_n133 (s0 : Int32) (w : q_W) : Option (Unit × q_W) :=
  q_b (fX1_push s0 w) fun r1 w2 =>
  some ((), w2)
set_option maxHeartbeats 4000000 in
set_option maxRecDepth 100000 in
theorem jX1_combine_n133 (X : q_X) (l : Launch) (s0 : Int32) (w : q_W) : q_J X S_C l mX1_combine 2 q_tV 133 [] [.int s0, .ref 31] w (fX1_combine_n133 s0 w) := by
  refine q_callVV (As := [.int s0]) (st := []) eX1_combine_133 cv_1_84 (kX1_push X l s0 w) tC_31 rfl (by decide) rfl rfl (Nat.le_of_ble_eq_true rfl) (by decide) (fun r1 w2 => ?_)
  refine q_goto (tgt := 153) eX1_combine_136 (by decide) ?_
  exact q_return eX1_combine_153 rfl
def fX1_combine_n116 (s0 : Int32) (w : q_W) : Option (Unit × q_W) :=
  q_b (fX1_push s0 w) fun r1 w2 =>
  some ((), w2)
set_option maxHeartbeats 4000000 in
set_option maxRecDepth 100000 in
theorem jX1_combine_n116 (X : q_X) (l : Launch) (s0 : Int32) (w : q_W) : q_J X S_C l mX1_combine 2 q_tV 116 [] [.int s0, .ref 31] w (fX1_combine_n116 s0 w) := by
  refine q_callVV (As := [.int s0]) (st := []) eX1_combine_116 cv_1_84 (kX1_push X l s0 w) tC_31 rfl (by decide) rfl rfl (Nat.le_of_ble_eq_true rfl) (by decide) (fun r1 w2 => ?_)
  refine q_goto (tgt := 153) eX1_combine_119 (by decide) ?_
  exact q_return eX1_combine_153 rfl
def fX1_combine_n99 (s0 : Int32) (w : q_W) : Option (Unit × q_W) :=
  q_b (fX1_push s0 w) fun r1 w2 =>
  some ((), w2)
set_option maxHeartbeats 4000000 in
set_option maxRecDepth 100000 in
theorem jX1_combine_n99 (X : q_X) (l : Launch) (s0 : Int32) (w : q_W) : q_J X S_C l mX1_combine 2 q_tV 99 [] [.int s0, .ref 31] w (fX1_combine_n99 s0 w) := by
  refine q_callVV (As := [.int s0]) (st := []) eX1_combine_99 cv_1_84 (kX1_push X l s0 w) tC_31 rfl (by decide) rfl rfl (Nat.le_of_ble_eq_true rfl) (by decide) (fun r1 w2 => ?_)
  refine q_goto (tgt := 153) eX1_combine_102 (by decide) ?_
  exact q_return eX1_combine_153 rfl
def fX1_combine_n78 (x1 : Int32) (x2 : Int32) (x3 : Int32) (w : q_W) : Option (Unit × q_W) :=
  q_b (fX1_divide x1 x2 x3 w) fun r1 w2 =>
  some ((), w2)
set_option maxHeartbeats 4000000 in
set_option maxRecDepth 100000 in
theorem jX1_combine_n78 (X : q_X) (l : Launch) (x1 : Int32) (x2 : Int32) (x3 : Int32) (w : q_W) : q_J X S_C l mX1_combine 2 q_tV 78 [(0, .ref 31), (1, .int x1), (2, .int x2), (3, .int x3)] [] w (fX1_combine_n78 x1 x2 x3 w) := by
  refine q_aload_n 0 eX1_combine_78 rfl rfl ?_
  refine q_iload_n 1 eX1_combine_79 rfl rfl ?_
  refine q_iload_n 2 eX1_combine_80 rfl rfl ?_
  refine q_iload_n 3 eX1_combine_81 rfl rfl ?_
  refine q_callVV (As := [.int x1, .int x2, .int x3]) (st := []) eX1_combine_82 cv_1_109 (kX1_divide X l x1 x2 x3 w) tC_31 rfl (by decide) rfl rfl (Nat.le_of_ble_eq_true rfl) (by decide) (fun r1 w2 => ?_)
  refine q_goto (tgt := 153) eX1_combine_85 (by decide) ?_
  exact q_return eX1_combine_153 rfl
def fX1_combine (a1 : Int32) (a2 : Int32) (a3 : Int32) (w : q_W) : Option (Unit × q_W) :=
  if a1 = 5 then
    q_b (fX1_push (a2 + a3) w) fun r2 w3 =>
    some ((), w3)
  else if a1 = 6 then
    q_b (fX1_push (a2 - a3) w) fun r5 w6 =>
    some ((), w6)
  else if a1 = 7 then
    q_b (fX1_push (a2 * a3) w) fun r8 w9 =>
    some ((), w9)
  else if a1 = 8 then
    fX1_combine_n78 a1 a2 a3 w
  else if a1 = 9 then
    fX1_combine_n78 a1 a2 a3 w
  else if a1 = 10 then
    if a2 = a3 then
      fX1_combine_n99 1 w
    else
      fX1_combine_n99 0 w
  else if a1 = 11 then
    if a2 = a3 then
      fX1_combine_n116 0 w
    else
      fX1_combine_n116 1 w
  else if a1 = 12 then
    if a3 ≤ a2 then
      fX1_combine_n133 0 w
    else
      fX1_combine_n133 1 w
  else if a3 < a2 then
    fX1_combine_n150 0 w
  else
    fX1_combine_n150 1 w
set_option maxHeartbeats 4000000 in
set_option maxRecDepth 100000 in
theorem kX1_combine (X : q_X) (l : Launch) (a1 : Int32) (a2 : Int32) (a3 : Int32) (w : q_W) : q_Ct X S_C l mX1_combine 2 q_tV [.ref 31, .int a1, .int a2, .int a3] w (fX1_combine a1 a2 a3 w) := by
  refine q_intro (lv := [(0, .ref 31), (1, .int a1), (2, .int a2), (3, .int a3)]) (by decide +kernel) rfl (Nat.le_of_ble_eq_true rfl) rfl ?_
  refine q_iload_n 1 eX1_combine_0 rfl rfl ?_
  refine q_ite (fun c1 => ?_) (fun c1 => ?_)
  · refine q_tabIn (off := 47) (tgt := 48) eX1_combine_1 (by rw [c1]; decide) (by rw [c1]; decide) (by rw [c1]; rfl) (by decide) ?_
    refine q_aload_n 0 eX1_combine_48 rfl rfl ?_
    refine q_iload_n 2 eX1_combine_49 rfl rfl ?_
    refine q_iload_n 3 eX1_combine_50 rfl rfl ?_
    refine q_iadd eX1_combine_51 ?_
    refine q_callVV (As := [.int (a2 + a3)]) (st := []) eX1_combine_52 cv_1_84 (kX1_push X l (a2 + a3) w) tC_31 rfl (by decide) rfl rfl (Nat.le_of_ble_eq_true rfl) (by decide) (fun r2 w3 => ?_)
    refine q_goto (tgt := 153) eX1_combine_55 (by decide) ?_
    exact q_return eX1_combine_153 rfl
  refine q_ite (fun c4 => ?_) (fun c4 => ?_)
  · refine q_tabIn (off := 57) (tgt := 58) eX1_combine_1 (by rw [c4]; decide) (by rw [c4]; decide) (by rw [c4]; rfl) (by decide) ?_
    refine q_aload_n 0 eX1_combine_58 rfl rfl ?_
    refine q_iload_n 2 eX1_combine_59 rfl rfl ?_
    refine q_iload_n 3 eX1_combine_60 rfl rfl ?_
    refine q_isub eX1_combine_61 ?_
    refine q_callVV (As := [.int (a2 - a3)]) (st := []) eX1_combine_62 cv_1_84 (kX1_push X l (a2 - a3) w) tC_31 rfl (by decide) rfl rfl (Nat.le_of_ble_eq_true rfl) (by decide) (fun r5 w6 => ?_)
    refine q_goto (tgt := 153) eX1_combine_65 (by decide) ?_
    exact q_return eX1_combine_153 rfl
  refine q_ite (fun c7 => ?_) (fun c7 => ?_)
  · refine q_tabIn (off := 67) (tgt := 68) eX1_combine_1 (by rw [c7]; decide) (by rw [c7]; decide) (by rw [c7]; rfl) (by decide) ?_
    refine q_aload_n 0 eX1_combine_68 rfl rfl ?_
    refine q_iload_n 2 eX1_combine_69 rfl rfl ?_
    refine q_iload_n 3 eX1_combine_70 rfl rfl ?_
    refine q_imul eX1_combine_71 ?_
    refine q_callVV (As := [.int (a2 * a3)]) (st := []) eX1_combine_72 cv_1_84 (kX1_push X l (a2 * a3) w) tC_31 rfl (by decide) rfl rfl (Nat.le_of_ble_eq_true rfl) (by decide) (fun r8 w9 => ?_)
    refine q_goto (tgt := 153) eX1_combine_75 (by decide) ?_
    exact q_return eX1_combine_153 rfl
  refine q_ite (fun c10 => ?_) (fun c10 => ?_)
  · refine q_tabIn (off := 77) (tgt := 78) eX1_combine_1 (by rw [c10]; decide) (by rw [c10]; decide) (by rw [c10]; rfl) (by decide) ?_
    exact q_sub [0, 1, 2, 3] rfl (jX1_combine_n78 X l a1 a2 a3 w)
  refine q_ite (fun c11 => ?_) (fun c11 => ?_)
  · refine q_tabIn (off := 77) (tgt := 78) eX1_combine_1 (by rw [c11]; decide) (by rw [c11]; decide) (by rw [c11]; rfl) (by decide) ?_
    exact q_sub [0, 1, 2, 3] rfl (jX1_combine_n78 X l a1 a2 a3 w)
  refine q_ite (fun c12 => ?_) (fun c12 => ?_)
  · refine q_tabIn (off := 87) (tgt := 88) eX1_combine_1 (by rw [c12]; decide) (by rw [c12]; decide) (by rw [c12]; rfl) (by decide) ?_
    refine q_aload_n 0 eX1_combine_88 rfl rfl ?_
    refine q_iload_n 2 eX1_combine_89 rfl rfl ?_
    refine q_iload_n 3 eX1_combine_90 rfl rfl ?_
    refine q_icmp_ne (tgt := 98) eX1_combine_91 (by decide) (fun _ => ?_) (fun _ => ?_)
    · refine q_iconst eX1_combine_94 kiconst_1 ?_
      refine q_goto (tgt := 99) eX1_combine_95 (by decide) ?_
      exact q_sub [] rfl (jX1_combine_n99 X l 1 w)
    · refine q_iconst eX1_combine_98 kiconst_0 ?_
      exact q_sub [] rfl (jX1_combine_n99 X l 0 w)
  refine q_ite (fun c13 => ?_) (fun c13 => ?_)
  · refine q_tabIn (off := 104) (tgt := 105) eX1_combine_1 (by rw [c13]; decide) (by rw [c13]; decide) (by rw [c13]; rfl) (by decide) ?_
    refine q_aload_n 0 eX1_combine_105 rfl rfl ?_
    refine q_iload_n 2 eX1_combine_106 rfl rfl ?_
    refine q_iload_n 3 eX1_combine_107 rfl rfl ?_
    refine q_icmp_eq (tgt := 115) eX1_combine_108 (by decide) (fun _ => ?_) (fun _ => ?_)
    · refine q_iconst eX1_combine_115 kiconst_0 ?_
      exact q_sub [] rfl (jX1_combine_n116 X l 0 w)
    · refine q_iconst eX1_combine_111 kiconst_1 ?_
      refine q_goto (tgt := 116) eX1_combine_112 (by decide) ?_
      exact q_sub [] rfl (jX1_combine_n116 X l 1 w)
  refine q_ite (fun c14 => ?_) (fun c14 => ?_)
  · refine q_tabIn (off := 121) (tgt := 122) eX1_combine_1 (by rw [c14]; decide) (by rw [c14]; decide) (by rw [c14]; rfl) (by decide) ?_
    refine q_aload_n 0 eX1_combine_122 rfl rfl ?_
    refine q_iload_n 2 eX1_combine_123 rfl rfl ?_
    refine q_iload_n 3 eX1_combine_124 rfl rfl ?_
    refine q_icmp_ge (tgt := 132) eX1_combine_125 (by decide) (fun _ => ?_) (fun _ => ?_)
    · refine q_iconst eX1_combine_132 kiconst_0 ?_
      exact q_sub [] rfl (jX1_combine_n133 X l 0 w)
    · refine q_iconst eX1_combine_128 kiconst_1 ?_
      refine q_goto (tgt := 133) eX1_combine_129 (by decide) ?_
      exact q_sub [] rfl (jX1_combine_n133 X l 1 w)
  refine q_tabOut (tgt := 139) eX1_combine_1 (by have zc1 := lv_neT (a := 5) c1 rfl; have zc4 := lv_neT (a := 6) c4 rfl; have zc7 := lv_neT (a := 7) c7 rfl; have zc10 := lv_neT (a := 8) c10 rfl; have zc11 := lv_neT (a := 9) c11 rfl; have zc12 := lv_neT (a := 10) c12 rfl; have zc13 := lv_neT (a := 11) c13 rfl; have zc14 := lv_neT (a := 12) c14 rfl; omega) (by decide) ?_
  refine q_aload_n 0 eX1_combine_139 rfl rfl ?_
  refine q_iload_n 2 eX1_combine_140 rfl rfl ?_
  refine q_iload_n 3 eX1_combine_141 rfl rfl ?_
  refine q_icmp_gt (tgt := 149) eX1_combine_142 (by decide) (fun _ => ?_) (fun _ => ?_)
  · refine q_iconst eX1_combine_149 kiconst_0 ?_
    exact q_sub [] rfl (jX1_combine_n150 X l 0 w)
  · refine q_iconst eX1_combine_145 kiconst_1 ?_
    refine q_goto (tgt := 150) eX1_combine_146 (by decide) ?_
    exact q_sub [] rfl (jX1_combine_n150 X l 1 w)
def fX1_pop (w : q_W) : Option (Int32 × q_W) :=
  if (w.1 31 8) ≤ 0 then
    some (0, w)
  else
    if (w.1 31 8) ≤ 64 then
      q_lt (q_sI w 31 8 ((w.1 31 8) - 1)) fun w1 =>
      q_lt (w1.1 31 8) fun y2 =>
      if q_inb y2 64 then
      some ((w1.1 32 (q_ix y2)), w1)
      else none
    else
      some (0, w)
set_option maxHeartbeats 4000000 in
set_option maxRecDepth 100000 in
theorem kX1_pop (X : q_X) (l : Launch) (w : q_W) : q_Ct X S_C l mX1_pop 0 q_tI [.ref 31] w (fX1_pop w) := by
  refine q_intro (lv := [(0, .ref 31)]) (by decide +kernel) rfl (Nat.le_of_ble_eq_true rfl) rfl ?_
  refine q_aload_n 0 eX1_pop_0 rfl rfl ?_
  refine q_getI eX1_pop_1 fl_1_45 tC_31 rfl ?_
  refine q_if_le (tgt := 16) eX1_pop_4 (by decide) (fun _ => ?_) (fun _ => ?_)
  · refine q_iconst eX1_pop_16 kiconst_0 ?_
    exact q_ireturn eX1_pop_17 rfl
  · refine q_aload_n 0 eX1_pop_7 rfl rfl ?_
    refine q_getI eX1_pop_8 fl_1_45 tC_31 rfl ?_
    refine q_bipush eX1_pop_11 kbipush_64 ?_
    refine q_icmp_le (tgt := 18) eX1_pop_13 (by decide) (fun _ => ?_) (fun _ => ?_)
    · refine q_aload_n 0 eX1_pop_18 rfl rfl ?_
      refine q_dup eX1_pop_19 rfl ?_
      refine q_getI eX1_pop_20 fl_1_45 tC_31 rfl ?_
      refine q_iconst eX1_pop_23 kiconst_1 ?_
      refine q_isub eX1_pop_24 ?_
      refine q_putI eX1_pop_25 fp_1_45 tC_31 rfl ⟨rfl, rfl⟩ ?_
      refine q_ltW (fun w1 => ?_)
      refine q_aload_n 0 eX1_pop_28 rfl rfl ?_
      refine q_getG (v := 32) eX1_pop_29 fl_1_11 tC_31 rfl gC_31_0 ?_
      refine q_aload_n 0 eX1_pop_32 rfl rfl ?_
      refine q_getI eX1_pop_33 fl_1_45 tC_31 rfl ?_
      refine q_ltI (fun y2 => ?_)
      refine q_iald eX1_pop_36 tC_32 nC_32 ?_
      exact q_ireturn eX1_pop_37 rfl
    · refine q_iconst eX1_pop_16 kiconst_0 ?_
      exact q_ireturn eX1_pop_17 rfl
def fX4_has (q0 : Nat) (a1 : Int32) (w : q_W) : Option (Int32 × q_W) :=
  if cC q0 = 4 then
  if a1 < 0 then
    some (0, w)
  else
    if (w.1 q0 4) ≤ a1 then
      some (0, w)
    else
      if 8 ≤ a1 then
        some (0, w)
      else
        some (1, w)
  else none
set_option maxHeartbeats 4000000 in
set_option maxRecDepth 100000 in
theorem kX4_has (X : q_X) (l : Launch) (q0 : Nat) (a1 : Int32) (w : q_W) : q_Ct X S_C l mX4_has 0 q_tI [.ref q0, .int a1] w (fX4_has q0 a1 w) := by
  refine q_intro (lv := [(0, .ref q0), (1, .int a1)]) (by decide +kernel) rfl (Nat.le_of_ble_eq_true rfl) rfl ?_
  refine q_ck (fun h0 => ?_)
  refine q_iload_n 1 eX4_has_0 rfl rfl ?_
  refine q_if_lt (tgt := 22) eX4_has_1 (by decide) (fun _ => ?_) (fun _ => ?_)
  · refine q_iconst eX4_has_22 kiconst_0 ?_
    exact q_zret eX4_has_23 rfl rfl
  · refine q_iload_n 1 eX4_has_4 rfl rfl ?_
    refine q_aload_n 0 eX4_has_5 rfl rfl ?_
    refine q_getI eX4_has_6 fl_4_23 h0 rfl ?_
    refine q_icmp_ge (tgt := 22) eX4_has_9 (by decide) (fun _ => ?_) (fun _ => ?_)
    · refine q_iconst eX4_has_22 kiconst_0 ?_
      exact q_zret eX4_has_23 rfl rfl
    · refine q_iload_n 1 eX4_has_12 rfl rfl ?_
      refine q_bipush eX4_has_13 kbipush_8 ?_
      refine q_icmp_ge (tgt := 22) eX4_has_15 (by decide) (fun _ => ?_) (fun _ => ?_)
      · refine q_iconst eX4_has_22 kiconst_0 ?_
        exact q_zret eX4_has_23 rfl rfl
      · refine q_iconst eX4_has_18 kiconst_1 ?_
        refine q_goto (tgt := 23) eX4_has_19 (by decide) ?_
        exact q_zret eX4_has_23 rfl rfl
def fX4_needs (q0 : Nat) (a1 : Int32) (w : q_W) : Option (Int32 × q_W) :=
  if cC q0 = 4 then
  q_b (fX4_has q0 a1 w) fun r1 w2 =>
  if r1 = 0 then
    some (0, w2)
  else
    if q_inb a1 8 then
    some ((w2.1 (fC q0 2) (q_ix a1)), w2)
    else none
  else none
set_option maxHeartbeats 4000000 in
set_option maxRecDepth 100000 in
theorem kX4_needs (X : q_X) (l : Launch) (q0 : Nat) (a1 : Int32) (w : q_W) : q_Ct X S_C l mX4_needs 1 q_tI [.ref q0, .int a1] w (fX4_needs q0 a1 w) := by
  refine q_intro (lv := [(0, .ref q0), (1, .int a1)]) (by decide +kernel) rfl (Nat.le_of_ble_eq_true rfl) rfl ?_
  refine q_ck (fun h0 => ?_)
  refine q_aload_n 0 eX4_needs_0 rfl rfl ?_
  refine q_iload_n 1 eX4_needs_1 rfl rfl ?_
  refine q_callVI (As := [.int a1]) (st := []) eX4_needs_2 cv_4_26 (kX4_has X l q0 a1 w) h0 rfl (by decide) rfl rfl (Nat.le_of_ble_eq_true rfl) (by decide) (fun r1 w2 => ?_)
  refine q_if_eq (tgt := 17) eX4_needs_5 (by decide) (fun _ => ?_) (fun _ => ?_)
  · refine q_iconst eX4_needs_17 kiconst_0 ?_
    exact q_ireturn eX4_needs_18 rfl
  · refine q_aload_n 0 eX4_needs_8 rfl rfl ?_
    refine q_getG (v := (fC q0 2)) eX4_needs_9 fl_4_16 h0 rfl rfl ?_
    refine q_iload_n 1 eX4_needs_12 rfl rfl ?_
    refine q_iald eX4_needs_13 (fxC_4_2 q0 h0) (flC_4_2 q0 h0) ?_
    refine q_goto (tgt := 18) eX4_needs_14 (by decide) ?_
    exact q_ireturn eX4_needs_18 rfl
def fX4_startOf (q0 : Nat) (a1 : Int32) (w : q_W) : Option (Int32 × q_W) :=
  if cC q0 = 4 then
  q_b (fX4_has q0 a1 w) fun r1 w2 =>
  if r1 = 0 then
    some (0, w2)
  else
    if q_inb a1 8 then
    some ((w2.1 (fC q0 1) (q_ix a1)), w2)
    else none
  else none
set_option maxHeartbeats 4000000 in
set_option maxRecDepth 100000 in
theorem kX4_startOf (X : q_X) (l : Launch) (q0 : Nat) (a1 : Int32) (w : q_W) : q_Ct X S_C l mX4_startOf 1 q_tI [.ref q0, .int a1] w (fX4_startOf q0 a1 w) := by
  refine q_intro (lv := [(0, .ref q0), (1, .int a1)]) (by decide +kernel) rfl (Nat.le_of_ble_eq_true rfl) rfl ?_
  refine q_ck (fun h0 => ?_)
  refine q_aload_n 0 eX4_startOf_0 rfl rfl ?_
  refine q_iload_n 1 eX4_startOf_1 rfl rfl ?_
  refine q_callVI (As := [.int a1]) (st := []) eX4_startOf_2 cv_4_26 (kX4_has X l q0 a1 w) h0 rfl (by decide) rfl rfl (Nat.le_of_ble_eq_true rfl) (by decide) (fun r1 w2 => ?_)
  refine q_if_eq (tgt := 17) eX4_startOf_5 (by decide) (fun _ => ?_) (fun _ => ?_)
  · refine q_iconst eX4_startOf_17 kiconst_0 ?_
    exact q_ireturn eX4_startOf_18 rfl
  · refine q_aload_n 0 eX4_startOf_8 rfl rfl ?_
    refine q_getG (v := (fC q0 1)) eX4_startOf_9 fl_4_13 h0 rfl rfl ?_
    refine q_iload_n 1 eX4_startOf_12 rfl rfl ?_
    refine q_iald eX4_startOf_13 (fxC_4_1 q0 h0) (flC_4_1 q0 h0) ?_
    refine q_goto (tgt := 18) eX4_startOf_14 (by decide) ?_
    exact q_ireturn eX4_startOf_18 rfl
def fX1_enter_n69 (w : q_W) : Option (Unit × q_W) :=
  q_b (fX1_breakOff 1 w) fun r1 w2 =>
  some ((), w2)
set_option maxHeartbeats 4000000 in
set_option maxRecDepth 100000 in
theorem jX1_enter_n69 (X : q_X) (l : Launch) (w : q_W) : q_J X S_C l mX1_enter 2 q_tV 69 [(0, .ref 31)] [] w (fX1_enter_n69 w) := by
  refine q_aload_n 0 eX1_enter_69 rfl rfl ?_
  refine q_iconst eX1_enter_70 kiconst_1 ?_
  refine q_callVV (As := [.int 1]) (st := []) eX1_enter_71 cv_1_112 (kX1_breakOff X l 1 w) tC_31 rfl (by decide) rfl rfl (Nat.le_of_ble_eq_true rfl) (by decide) (fun r1 w2 => ?_)
  exact q_return eX1_enter_74 rfl
def fX1_enter_n35 (x1 : Int32) (x3 : Int32) (s0 : Int32) (w : q_W) : Option (Unit × q_W) :=
  if cC (w.2.1 31 5) = 4 then
  q_b (fX4_has (w.2.1 31 5) x1 w) fun r2 w3 =>
  if r2 = 0 then
    fX1_enter_n69 w3
  else
    if (w3.1 31 9) < 0 then
      fX1_enter_n69 w3
    else
      if (w3.1 31 9) < (8 - 1) then
        q_lt (w3.1 31 9) fun y4 =>
        if q_inb y4 8 then
        q_lt (q_sI w3 35 (q_ix y4) (w3.1 31 7)) fun w5 =>
        q_lt (q_sI w5 31 9 ((w5.1 31 9) + 1)) fun w6 =>
        q_b (fX1_setValue 0 s0 w6) fun r7 w8 =>
        q_b (fX1_setValue 1 x3 w8) fun r9 w10 =>
        if cC (w10.2.1 31 5) = 4 then
        q_b (fX4_startOf (w10.2.1 31 5) x1 w10) fun r12 w13 =>
        q_lt (q_sI w13 31 7 r12) fun w14 =>
        some ((), w14)
        else none
        else none
      else
        fX1_enter_n69 w3
  else none
set_option maxHeartbeats 4000000 in
set_option maxRecDepth 100000 in
theorem jX1_enter_n35 (X : q_X) (l : Launch) (x1 : Int32) (x3 : Int32) (s0 : Int32) (w : q_W) : q_J X S_C l mX1_enter 2 q_tV 35 [(0, .ref 31), (1, .int x1), (3, .int x3)] [.int s0] w (fX1_enter_n35 x1 x3 s0 w) := by
  refine q_istore (lv' := [(4, .int s0), (0, .ref 31), (1, .int x1), (3, .int x3)]) eX1_enter_35 (by decide) rfl ?_
  refine q_aload_n 1 eX1_enter_37 rfl rfl ?_
  refine q_getR eX1_enter_38 fl_1_29 tC_31 rfl ?_
  refine q_ck (fun g1 => ?_)
  refine q_iload_n 2 eX1_enter_41 rfl rfl ?_
  refine q_callVI (As := [.int x1]) (st := []) eX1_enter_42 cv_1_57 (kX4_has X l (w.2.1 31 5) x1 w) g1 rfl (by decide) rfl rfl (Nat.le_of_ble_eq_true rfl) (by decide) (fun r2 w3 => ?_)
  refine q_if_eq (tgt := 69) eX1_enter_45 (by decide) (fun _ => ?_) (fun _ => ?_)
  · exact q_sub [1] rfl (jX1_enter_n69 X l w3)
  · refine q_aload_n 1 eX1_enter_48 rfl rfl ?_
    refine q_getI eX1_enter_49 fl_1_48 tC_31 rfl ?_
    refine q_if_lt (tgt := 69) eX1_enter_52 (by decide) (fun _ => ?_) (fun _ => ?_)
    · exact q_sub [1] rfl (jX1_enter_n69 X l w3)
    · refine q_aload_n 1 eX1_enter_55 rfl rfl ?_
      refine q_getI eX1_enter_56 fl_1_48 tC_31 rfl ?_
      refine q_aload_n 1 eX1_enter_59 rfl rfl ?_
      refine q_getG (v := 35) eX1_enter_60 fl_1_21 tC_31 rfl gC_31_3 ?_
      refine q_alen eX1_enter_63 tC_35 nC_35 ?_
      refine q_iconst eX1_enter_64 kiconst_1 ?_
      refine q_isub eX1_enter_65 ?_
      refine q_icmp_lt (tgt := 75) eX1_enter_66 (by decide) (fun _ => ?_) (fun _ => ?_)
      · refine q_aload_n 1 eX1_enter_75 rfl rfl ?_
        refine q_getG (v := 35) eX1_enter_76 fl_1_21 tC_31 rfl gC_31_3 ?_
        refine q_aload_n 1 eX1_enter_79 rfl rfl ?_
        refine q_getI eX1_enter_80 fl_1_48 tC_31 rfl ?_
        refine q_aload_n 1 eX1_enter_83 rfl rfl ?_
        refine q_getI eX1_enter_84 fl_1_41 tC_31 rfl ?_
        refine q_ltI1 (fun y4 => ?_)
        refine q_iast eX1_enter_87 tC_35 nC_35 ?_
        refine q_ltW (fun w5 => ?_)
        refine q_aload_n 1 eX1_enter_88 rfl rfl ?_
        refine q_dup eX1_enter_89 rfl ?_
        refine q_getI eX1_enter_90 fl_1_48 tC_31 rfl ?_
        refine q_iconst eX1_enter_93 kiconst_1 ?_
        refine q_iadd eX1_enter_94 ?_
        refine q_putI eX1_enter_95 fp_1_48 tC_31 rfl ⟨rfl, rfl⟩ ?_
        refine q_ltW (fun w6 => ?_)
        refine q_aload_n 1 eX1_enter_98 rfl rfl ?_
        refine q_iconst eX1_enter_99 kiconst_0 ?_
        refine q_iload 0 eX1_enter_100 rfl ?_
        refine q_callVV (As := [.int 0, .int s0]) (st := []) eX1_enter_102 cv_1_65 (kX1_setValue X l 0 s0 w6) tC_31 rfl (by decide) rfl rfl (Nat.le_of_ble_eq_true rfl) (by decide) (fun r7 w8 => ?_)
        refine q_aload_n 1 eX1_enter_105 rfl rfl ?_
        refine q_iconst eX1_enter_106 kiconst_1 ?_
        refine q_iload_n 3 eX1_enter_107 rfl rfl ?_
        refine q_callVV (As := [.int 1, .int x3]) (st := []) eX1_enter_108 cv_1_65 (kX1_setValue X l 1 x3 w8) tC_31 rfl (by decide) rfl rfl (Nat.le_of_ble_eq_true rfl) (by decide) (fun r9 w10 => ?_)
        refine q_aload_n 1 eX1_enter_111 rfl rfl ?_
        refine q_aload_n 1 eX1_enter_112 rfl rfl ?_
        refine q_getR eX1_enter_113 fl_1_29 tC_31 rfl ?_
        refine q_ck (fun g11 => ?_)
        refine q_iload_n 2 eX1_enter_116 rfl rfl ?_
        refine q_callVI (As := [.int x1]) (st := [.ref 31]) eX1_enter_117 cv_1_37 (kX4_startOf X l (w10.2.1 31 5) x1 w10) g11 rfl (by decide) rfl rfl (Nat.le_of_ble_eq_true rfl) (by decide) (fun r12 w13 => ?_)
        refine q_putI eX1_enter_120 fp_1_41 tC_31 rfl ⟨rfl, rfl⟩ ?_
        refine q_ltW (fun w14 => ?_)
        exact q_return eX1_enter_123 rfl
      · exact q_sub [1] rfl (jX1_enter_n69 X l w3)
def fX1_enter_n22 (x1 : Int32) (x2 : Int32) (s0 : Int32) (w : q_W) : Option (Unit × q_W) :=
  if x2 ≤ 0 then
    fX1_enter_n35 x1 s0 0 w
  else
    q_b (fX1_pop w) fun r1 w2 =>
    fX1_enter_n35 x1 s0 r1 w2
set_option maxHeartbeats 4000000 in
set_option maxRecDepth 100000 in
theorem jX1_enter_n22 (X : q_X) (l : Launch) (x1 : Int32) (x2 : Int32) (s0 : Int32) (w : q_W) : q_J X S_C l mX1_enter 2 q_tV 22 [(0, .ref 31), (1, .int x1), (2, .int x2)] [.int s0] w (fX1_enter_n22 x1 x2 s0 w) := by
  refine q_istore_n (lv' := [(3, .int s0), (0, .ref 31), (1, .int x1), (2, .int x2)]) eX1_enter_22 rfl (by decide) rfl ?_
  refine q_iload_n 3 eX1_enter_23 rfl rfl ?_
  refine q_if_le (tgt := 34) eX1_enter_24 (by decide) (fun _ => ?_) (fun _ => ?_)
  · refine q_iconst eX1_enter_34 kiconst_0 ?_
    exact q_sub [1, 2, 0] rfl (jX1_enter_n35 X l x1 s0 0 w)
  · refine q_aload_n 1 eX1_enter_27 rfl rfl ?_
    refine q_callVI (As := []) (st := []) eX1_enter_28 cv_1_90 (kX1_pop X l w) tC_31 rfl (by decide) rfl rfl (Nat.le_of_ble_eq_true rfl) (by decide) (fun r1 w2 => ?_)
    refine q_goto (tgt := 35) eX1_enter_31 (by decide) ?_
    exact q_sub [1, 2, 0] rfl (jX1_enter_n35 X l x1 s0 r1 w2)
def fX1_enter (a1 : Int32) (w : q_W) : Option (Unit × q_W) :=
  if cC (w.2.1 31 5) = 4 then
  q_b (fX4_needs (w.2.1 31 5) a1 w) fun r2 w3 =>
  if r2 ≤ 1 then
    fX1_enter_n22 a1 r2 0 w3
  else
    q_b (fX1_pop w3) fun r4 w5 =>
    fX1_enter_n22 a1 r2 r4 w5
  else none
set_option maxHeartbeats 4000000 in
set_option maxRecDepth 100000 in
theorem kX1_enter (X : q_X) (l : Launch) (a1 : Int32) (w : q_W) : q_Ct X S_C l mX1_enter 2 q_tV [.ref 31, .int a1] w (fX1_enter a1 w) := by
  refine q_intro (lv := [(0, .ref 31), (1, .int a1)]) (by decide +kernel) rfl (Nat.le_of_ble_eq_true rfl) rfl ?_
  refine q_aload_n 0 eX1_enter_0 rfl rfl ?_
  refine q_getR eX1_enter_1 fl_1_29 tC_31 rfl ?_
  refine q_ck (fun g1 => ?_)
  refine q_iload_n 1 eX1_enter_4 rfl rfl ?_
  refine q_callVI (As := [.int a1]) (st := []) eX1_enter_5 cv_1_146 (kX4_needs X l (w.2.1 31 5) a1 w) g1 rfl (by decide) rfl rfl (Nat.le_of_ble_eq_true rfl) (by decide) (fun r2 w3 => ?_)
  refine q_istore_n (lv' := [(2, .int r2), (0, .ref 31), (1, .int a1)]) eX1_enter_8 rfl (by decide) rfl ?_
  refine q_iload_n 0 eX1_enter_9 rfl rfl ?_
  refine q_iconst eX1_enter_10 kiconst_1 ?_
  refine q_icmp_le (tgt := 21) eX1_enter_11 (by decide) (fun _ => ?_) (fun _ => ?_)
  · refine q_iconst eX1_enter_21 kiconst_0 ?_
    exact q_sub [1, 2, 0] rfl (jX1_enter_n22 X l a1 r2 0 w3)
  · refine q_aload_n 1 eX1_enter_14 rfl rfl ?_
    refine q_callVI (As := []) (st := []) eX1_enter_15 cv_1_90 (kX1_pop X l w3) tC_31 rfl (by decide) rfl rfl (Nat.le_of_ble_eq_true rfl) (by decide) (fun r4 w5 => ?_)
    refine q_goto (tgt := 22) eX1_enter_18 (by decide) ?_
    exact q_sub [1, 2, 0] rfl (jX1_enter_n22 X l a1 r2 r4 w5)
def fX1_leave (w : q_W) : Option (Unit × q_W) :=
  q_lt (q_sI w 31 9 ((w.1 31 9) - 1)) fun w1 =>
  if (w1.1 31 9) < 0 then
    q_lt (q_sI w1 31 13 1) fun w2 =>
    some ((), w2)
  else
    if (w1.1 31 9) < 8 then
      q_lt (w1.1 31 9) fun y3 =>
      if q_inb y3 8 then
      q_lt (q_sI w1 31 7 (w1.1 35 (q_ix y3))) fun w4 =>
      some ((), w4)
      else none
    else
      q_lt (q_sI w1 31 13 1) fun w5 =>
      some ((), w5)
set_option maxHeartbeats 4000000 in
set_option maxRecDepth 100000 in
theorem kX1_leave (X : q_X) (l : Launch) (w : q_W) : q_Ct X S_C l mX1_leave 0 q_tV [.ref 31] w (fX1_leave w) := by
  refine q_intro (lv := [(0, .ref 31)]) (by decide +kernel) rfl (Nat.le_of_ble_eq_true rfl) rfl ?_
  refine q_aload_n 0 eX1_leave_0 rfl rfl ?_
  refine q_dup eX1_leave_1 rfl ?_
  refine q_getI eX1_leave_2 fl_1_48 tC_31 rfl ?_
  refine q_iconst eX1_leave_5 kiconst_1 ?_
  refine q_isub eX1_leave_6 ?_
  refine q_putI eX1_leave_7 fp_1_48 tC_31 rfl ⟨rfl, rfl⟩ ?_
  refine q_ltW (fun w1 => ?_)
  refine q_aload_n 0 eX1_leave_10 rfl rfl ?_
  refine q_getI eX1_leave_11 fl_1_48 tC_31 rfl ?_
  refine q_if_lt (tgt := 29) eX1_leave_14 (by decide) (fun _ => ?_) (fun _ => ?_)
  · refine q_aload_n 0 eX1_leave_29 rfl rfl ?_
    refine q_iconst eX1_leave_30 kiconst_1 ?_
    refine q_putI eX1_leave_31 fp_1_61 tC_31 rfl ⟨rfl, rfl⟩ ?_
    refine q_ltW (fun w2 => ?_)
    exact q_return eX1_leave_34 rfl
  · refine q_aload_n 0 eX1_leave_17 rfl rfl ?_
    refine q_getI eX1_leave_18 fl_1_48 tC_31 rfl ?_
    refine q_aload_n 0 eX1_leave_21 rfl rfl ?_
    refine q_getG (v := 35) eX1_leave_22 fl_1_21 tC_31 rfl gC_31_3 ?_
    refine q_alen eX1_leave_25 tC_35 nC_35 ?_
    refine q_icmp_lt (tgt := 35) eX1_leave_26 (by decide) (fun _ => ?_) (fun _ => ?_)
    · refine q_aload_n 0 eX1_leave_35 rfl rfl ?_
      refine q_aload_n 0 eX1_leave_36 rfl rfl ?_
      refine q_getG (v := 35) eX1_leave_37 fl_1_21 tC_31 rfl gC_31_3 ?_
      refine q_aload_n 0 eX1_leave_40 rfl rfl ?_
      refine q_getI eX1_leave_41 fl_1_48 tC_31 rfl ?_
      refine q_ltI (fun y3 => ?_)
      refine q_iald eX1_leave_44 tC_35 nC_35 ?_
      refine q_putI eX1_leave_45 fp_1_41 tC_31 rfl ⟨rfl, rfl⟩ ?_
      refine q_ltW (fun w4 => ?_)
      exact q_return eX1_leave_48 rfl
    · refine q_aload_n 0 eX1_leave_29 rfl rfl ?_
      refine q_iconst eX1_leave_30 kiconst_1 ?_
      refine q_putI eX1_leave_31 fp_1_61 tC_31 rfl ⟨rfl, rfl⟩ ?_
      refine q_ltW (fun w5 => ?_)
      exact q_return eX1_leave_34 rfl
def fX4_wordAt (q0 : Nat) (a1 : Int32) (w : q_W) : Option (Int32 × q_W) :=
  if cC q0 = 4 then
  if a1 < 0 then
    some (0, w)
  else
    if (w.1 q0 3) ≤ a1 then
      some (0, w)
    else
      if 2000 ≤ a1 then
        some (0, w)
      else
        if q_inb a1 2000 then
        some ((w.1 (fC q0 0) (q_ix a1)), w)
        else none
  else none
set_option maxHeartbeats 4000000 in
set_option maxRecDepth 100000 in
theorem kX4_wordAt (X : q_X) (l : Launch) (q0 : Nat) (a1 : Int32) (w : q_W) : q_Ct X S_C l mX4_wordAt 0 q_tI [.ref q0, .int a1] w (fX4_wordAt q0 a1 w) := by
  refine q_intro (lv := [(0, .ref q0), (1, .int a1)]) (by decide +kernel) rfl (Nat.le_of_ble_eq_true rfl) rfl ?_
  refine q_ck (fun h0 => ?_)
  refine q_iload_n 1 eX4_wordAt_0 rfl rfl ?_
  refine q_if_lt (tgt := 28) eX4_wordAt_1 (by decide) (fun _ => ?_) (fun _ => ?_)
  · refine q_iconst eX4_wordAt_28 kiconst_0 ?_
    exact q_ireturn eX4_wordAt_29 rfl
  · refine q_iload_n 1 eX4_wordAt_4 rfl rfl ?_
    refine q_aload_n 0 eX4_wordAt_5 rfl rfl ?_
    refine q_getI eX4_wordAt_6 fl_4_19 h0 rfl ?_
    refine q_icmp_ge (tgt := 28) eX4_wordAt_9 (by decide) (fun _ => ?_) (fun _ => ?_)
    · refine q_iconst eX4_wordAt_28 kiconst_0 ?_
      exact q_ireturn eX4_wordAt_29 rfl
    · refine q_iload_n 1 eX4_wordAt_12 rfl rfl ?_
      refine q_sipush eX4_wordAt_13 ksipush_2000 ?_
      refine q_icmp_ge (tgt := 28) eX4_wordAt_16 (by decide) (fun _ => ?_) (fun _ => ?_)
      · refine q_iconst eX4_wordAt_28 kiconst_0 ?_
        exact q_ireturn eX4_wordAt_29 rfl
      · refine q_aload_n 0 eX4_wordAt_19 rfl rfl ?_
        refine q_getG (v := (fC q0 0)) eX4_wordAt_20 fl_4_9 h0 rfl rfl ?_
        refine q_iload_n 1 eX4_wordAt_23 rfl rfl ?_
        refine q_iald eX4_wordAt_24 (fxC_4_0 q0 h0) (flC_4_0 q0 h0) ?_
        refine q_goto (tgt := 29) eX4_wordAt_25 (by decide) ?_
        exact q_ireturn eX4_wordAt_29 rfl
def fX1_nextWord (w : q_W) : Option (Int32 × q_W) :=
  if cC (w.2.1 31 5) = 4 then
  q_b (fX4_wordAt (w.2.1 31 5) (w.1 31 7) w) fun r2 w3 =>
  q_lt (q_sI w3 31 7 ((w3.1 31 7) + 1)) fun w4 =>
  some (r2, w4)
  else none
set_option maxHeartbeats 4000000 in
set_option maxRecDepth 100000 in
theorem kX1_nextWord (X : q_X) (l : Launch) (w : q_W) : q_Ct X S_C l mX1_nextWord 1 q_tI [.ref 31] w (fX1_nextWord w) := by
  refine q_intro (lv := [(0, .ref 31)]) (by decide +kernel) rfl (Nat.le_of_ble_eq_true rfl) rfl ?_
  refine q_aload_n 0 eX1_nextWord_0 rfl rfl ?_
  refine q_getR eX1_nextWord_1 fl_1_29 tC_31 rfl ?_
  refine q_ck (fun g1 => ?_)
  refine q_aload_n 0 eX1_nextWord_4 rfl rfl ?_
  refine q_getI eX1_nextWord_5 fl_1_41 tC_31 rfl ?_
  refine q_callVI (As := [.int (w.1 31 7)]) (st := []) eX1_nextWord_8 cv_1_149 (kX4_wordAt X l (w.2.1 31 5) (w.1 31 7) w) g1 rfl (by decide) rfl rfl (Nat.le_of_ble_eq_true rfl) (by decide) (fun r2 w3 => ?_)
  refine q_istore_n (lv' := [(1, .int r2), (0, .ref 31)]) eX1_nextWord_11 rfl (by decide) rfl ?_
  refine q_aload_n 1 eX1_nextWord_12 rfl rfl ?_
  refine q_dup eX1_nextWord_13 rfl ?_
  refine q_getI eX1_nextWord_14 fl_1_41 tC_31 rfl ?_
  refine q_iconst eX1_nextWord_17 kiconst_1 ?_
  refine q_iadd eX1_nextWord_18 ?_
  refine q_putI eX1_nextWord_19 fp_1_41 tC_31 rfl ⟨rfl, rfl⟩ ?_
  refine q_ltW (fun w4 => ?_)
  refine q_iload_n 0 eX1_nextWord_22 rfl rfl ?_
  exact q_ireturn eX1_nextWord_23 rfl
def fX1_startDeed (a1 : Int32) (w : q_W) : Option (Unit × q_W) :=
  q_lt (q_sI w 31 11 a1) fun w1 =>
  q_lt (q_sI w1 31 10 ((w1.1 31 10) + 1)) fun w2 =>
  if (w2.1 31 10) ≤ 2000 then
    some ((), w2)
  else
    q_b (fX1_breakOff 1 w2) fun r3 w4 =>
    some ((), w4)
set_option maxHeartbeats 4000000 in
set_option maxRecDepth 100000 in
theorem kX1_startDeed (X : q_X) (l : Launch) (a1 : Int32) (w : q_W) : q_Ct X S_C l mX1_startDeed 1 q_tV [.ref 31, .int a1] w (fX1_startDeed a1 w) := by
  refine q_intro (lv := [(0, .ref 31), (1, .int a1)]) (by decide +kernel) rfl (Nat.le_of_ble_eq_true rfl) rfl ?_
  refine q_aload_n 0 eX1_startDeed_0 rfl rfl ?_
  refine q_iload_n 1 eX1_startDeed_1 rfl rfl ?_
  refine q_putI eX1_startDeed_2 fp_1_73 tC_31 rfl ⟨rfl, rfl⟩ ?_
  refine q_ltW (fun w1 => ?_)
  refine q_aload_n 0 eX1_startDeed_5 rfl rfl ?_
  refine q_dup eX1_startDeed_6 rfl ?_
  refine q_getI eX1_startDeed_7 fl_1_51 tC_31 rfl ?_
  refine q_iconst eX1_startDeed_10 kiconst_1 ?_
  refine q_iadd eX1_startDeed_11 ?_
  refine q_putI eX1_startDeed_12 fp_1_51 tC_31 rfl ⟨rfl, rfl⟩ ?_
  refine q_ltW (fun w2 => ?_)
  refine q_aload_n 0 eX1_startDeed_15 rfl rfl ?_
  refine q_getI eX1_startDeed_16 fl_1_51 tC_31 rfl ?_
  refine q_sipush eX1_startDeed_19 ksipush_2000 ?_
  refine q_icmp_le (tgt := 30) eX1_startDeed_22 (by decide) (fun _ => ?_) (fun _ => ?_)
  · exact q_return eX1_startDeed_30 rfl
  · refine q_aload_n 0 eX1_startDeed_25 rfl rfl ?_
    refine q_iconst eX1_startDeed_26 kiconst_1 ?_
    refine q_callVV (As := [.int 1]) (st := []) eX1_startDeed_27 cv_1_112 (kX1_breakOff X l 1 w2) tC_31 rfl (by decide) rfl rfl (Nat.le_of_ble_eq_true rfl) (by decide) (fun r3 w4 => ?_)
    exact q_return eX1_startDeed_30 rfl
def fX6_isFull (q0 : Nat) (w : q_W) : Option (Int32 × q_W) :=
  if cC q0 = 6 then
  if (w.1 q0 2) < (w.1 q0 3) then
    some (0, w)
  else
    some (1, w)
  else none
set_option maxHeartbeats 4000000 in
set_option maxRecDepth 100000 in
theorem kX6_isFull (X : q_X) (l : Launch) (q0 : Nat) (w : q_W) : q_Ct X S_C l mX6_isFull 0 q_tI [.ref q0] w (fX6_isFull q0 w) := by
  refine q_intro (lv := [(0, .ref q0)]) (by decide +kernel) rfl (Nat.le_of_ble_eq_true rfl) rfl ?_
  refine q_ck (fun h0 => ?_)
  refine q_aload_n 0 eX6_isFull_0 rfl rfl ?_
  refine q_getI eX6_isFull_1 fl_6_22 h0 rfl ?_
  refine q_aload_n 0 eX6_isFull_4 rfl rfl ?_
  refine q_getI eX6_isFull_5 fl_6_18 h0 rfl ?_
  refine q_icmp_lt (tgt := 15) eX6_isFull_8 (by decide) (fun _ => ?_) (fun _ => ?_)
  · refine q_iconst eX6_isFull_15 kiconst_0 ?_
    exact q_zret eX6_isFull_16 rfl rfl
  · refine q_iconst eX6_isFull_11 kiconst_1 ?_
    refine q_goto (tgt := 16) eX6_isFull_12 (by decide) ?_
    exact q_zret eX6_isFull_16 rfl rfl
def fX6_add_n73 (q0 : Nat) (q2 : Nat) (w : q_W) : Option (Int32 × q_W) :=
  q_lt (q_sI w q0 2 ((w.1 q0 2) + 1)) fun w1 =>
  some (((w1.1 q0 2) - 1), w1)
set_option maxHeartbeats 4000000 in
set_option maxRecDepth 100000 in
theorem jX6_add_n73 (X : q_X) (l : Launch) (q0 : Nat) (q2 : Nat) (h0 : cC q0 = 6) (h2 : cC q2 = 100) (w : q_W) : q_J X S_C l mX6_add 1 q_tI 73 [(0, .ref q0)] [] w (fX6_add_n73 q0 q2 w) := by
  refine q_aload_n 0 eX6_add_73 rfl rfl ?_
  refine q_dup eX6_add_74 rfl ?_
  refine q_getI eX6_add_75 fl_6_22 h0 rfl ?_
  refine q_iconst eX6_add_78 kiconst_1 ?_
  refine q_iadd eX6_add_79 ?_
  refine q_putI eX6_add_80 fp_6_22 h0 rfl ⟨rfl, rfl⟩ ?_
  refine q_ltW (fun w1 => ?_)
  refine q_aload_n 0 eX6_add_83 rfl rfl ?_
  refine q_getI eX6_add_84 fl_6_22 h0 rfl ?_
  refine q_iconst eX6_add_87 kiconst_1 ?_
  refine q_isub eX6_add_88 ?_
  exact q_ireturn eX6_add_89 rfl
def fX6_add_h38 (q0 : Nat) (q2 : Nat) (rec38 : Int32 → q_W → Option (Int32 × q_W)) (x3 : Int32) (w : q_W) : Option (Int32 × q_W) :=
  if 6 ≤ x3 then
    fX6_add_n73 q0 q2 w
  else
    if (Int32.ofNat (lC q2)) ≤ x3 then
      fX6_add_n73 q0 q2 w
    else
      if q_inb x3 (lC q2) then
      q_lt (((w.1 q0 2) * 6) + x3) fun y1 =>
      if q_inb y1 2880 then
      q_lt (q_sI w (fC q0 1) (q_ix y1) (w.1 q2 (q_ix x3))) fun w2 =>
      q_lt (x3 + 1) fun y3 =>
      rec38 y3 w2
      else none
      else none
def fX6_add_l38 (q0 : Nat) (q2 : Nat) : Int32 → q_W → Option (Int32 × q_W) := q_it q_N (fX6_add_h38 q0 q2) (fun _ _ => none)
set_option maxHeartbeats 4000000 in
set_option maxRecDepth 100000 in
theorem jX6_add_h38 (X : q_X) (l : Launch) (q0 : Nat) (q2 : Nat) (h0 : cC q0 = 6) (h2 : cC q2 = 100) (rec38 : Int32 → q_W → Option (Int32 × q_W)) (hr38 : ∀ x3 w, q_J X S_C l mX6_add 1 q_tI 38 [(0, .ref q0), (2, .ref q2), (3, .int x3)] [] w (rec38 x3 w)) : ∀ x3 w, q_J X S_C l mX6_add 1 q_tI 38 [(0, .ref q0), (2, .ref q2), (3, .int x3)] [] w (fX6_add_h38 q0 q2 rec38 x3 w) := by
  intro x3 w
  refine q_iload_n 2 eX6_add_38 rfl rfl ?_
  refine q_bipush eX6_add_39 kbipush_6 ?_
  refine q_icmp_ge (tgt := 73) eX6_add_41 (by decide) (fun _ => ?_) (fun _ => ?_)
  · exact q_sub [0] rfl (jX6_add_n73 X l q0 q2 h0 h2 w)
  · refine q_iload_n 2 eX6_add_44 rfl rfl ?_
    refine q_aload_n 1 eX6_add_45 rfl rfl ?_
    refine q_alen eX6_add_46 h2 rfl ?_
    refine q_icmp_ge (tgt := 73) eX6_add_47 (by decide) (fun _ => ?_) (fun _ => ?_)
    · exact q_sub [0] rfl (jX6_add_n73 X l q0 q2 h0 h2 w)
    · refine q_aload_n 0 eX6_add_50 rfl rfl ?_
      refine q_getG (v := (fC q0 1)) eX6_add_51 fl_6_15 h0 rfl rfl ?_
      refine q_aload_n 0 eX6_add_54 rfl rfl ?_
      refine q_getI eX6_add_55 fl_6_22 h0 rfl ?_
      refine q_bipush eX6_add_58 kbipush_6 ?_
      refine q_imul eX6_add_60 ?_
      refine q_iload_n 2 eX6_add_61 rfl rfl ?_
      refine q_iadd eX6_add_62 ?_
      refine q_aload_n 1 eX6_add_63 rfl rfl ?_
      refine q_iload_n 2 eX6_add_64 rfl rfl ?_
      refine q_iald eX6_add_65 h2 rfl ?_
      refine q_ltI1 (fun y1 => ?_)
      refine q_iast eX6_add_66 (fxC_6_1 q0 h0) (flC_6_1 q0 h0) ?_
      refine q_ltW (fun w2 => ?_)
      refine q_ltE (fun y3 hy3 => ?_)
      refine q_iinc (v := y3) (lv' := [(3, .int y3), (0, .ref q0), (2, .ref q2)]) 2 eX6_add_67 rfl hy3 (by decide) rfl ?_
      refine q_goto (tgt := 38) eX6_add_70 (by decide) ?_
      exact q_sub [1, 2, 0] rfl (hr38 y3 w2)
set_option maxHeartbeats 4000000 in
set_option maxRecDepth 100000 in
theorem jX6_add_l38 (X : q_X) (l : Launch) (q0 : Nat) (q2 : Nat) (h0 : cC q0 = 6) (h2 : cC q2 = 100) : ∀ x3 w, q_J X S_C l mX6_add 1 q_tI 38 [(0, .ref q0), (2, .ref q2), (3, .int x3)] [] w (fX6_add_l38 q0 q2 x3 w) := by
  exact q_it_ind (fun rc => ∀ x3 w, q_J X S_C l mX6_add 1 q_tI 38 [(0, .ref q0), (2, .ref q2), (3, .int x3)] [] w (rc x3 w)) _ _ (fun _ _ => q_none) (fun rc hrc => jX6_add_h38 X l q0 q2 h0 h2 rc hrc) q_N
def fX6_add (q0 : Nat) (a1 : Int32) (q2 : Nat) (w : q_W) : Option (Int32 × q_W) :=
  if cC q0 = 6 then
  if cC q2 = 100 then
  q_b (fX6_isFull q0 w) fun r1 w2 =>
  if r1 = 0 then
    if (w2.1 q0 2) < 0 then
      some ((-1), w2)
    else
      if (w2.1 q0 2) < 480 then
        q_lt (w2.1 q0 2) fun y3 =>
        if q_inb y3 480 then
        q_lt (q_sI w2 (fC q0 0) (q_ix y3) a1) fun w4 =>
        fX6_add_l38 q0 q2 0 w4
        else none
      else
        some ((-1), w2)
  else
    some ((-1), w2)
  else none
  else none
set_option maxHeartbeats 4000000 in
set_option maxRecDepth 100000 in
theorem kX6_add (X : q_X) (l : Launch) (q0 : Nat) (a1 : Int32) (q2 : Nat) (w : q_W) : q_Ct X S_C l mX6_add 1 q_tI [.ref q0, .int a1, .ref q2] w (fX6_add q0 a1 q2 w) := by
  refine q_intro (lv := [(0, .ref q0), (1, .int a1), (2, .ref q2)]) (by decide +kernel) rfl (Nat.le_of_ble_eq_true rfl) rfl ?_
  refine q_ck (fun h0 => ?_)
  refine q_ck (fun h2 => ?_)
  refine q_aload_n 0 eX6_add_0 rfl rfl ?_
  refine q_callVI (As := []) (st := []) eX6_add_1 cv_6_38 (kX6_isFull X l q0 w) h0 rfl (by decide) rfl rfl (Nat.le_of_ble_eq_true rfl) (by decide) (fun r1 w2 => ?_)
  refine q_if_ne (tgt := 24) eX6_add_4 (by decide) (fun _ => ?_) (fun _ => ?_)
  · refine q_aload_n 0 eX6_add_7 rfl rfl ?_
    refine q_getI eX6_add_8 fl_6_22 h0 rfl ?_
    refine q_if_lt (tgt := 24) eX6_add_11 (by decide) (fun _ => ?_) (fun _ => ?_)
    · refine q_iconst eX6_add_24 kiconst_m1 ?_
      exact q_ireturn eX6_add_25 rfl
    · refine q_aload_n 0 eX6_add_14 rfl rfl ?_
      refine q_getI eX6_add_15 fl_6_22 h0 rfl ?_
      refine q_sipush eX6_add_18 ksipush_480 ?_
      refine q_icmp_lt (tgt := 26) eX6_add_21 (by decide) (fun _ => ?_) (fun _ => ?_)
      · refine q_aload_n 0 eX6_add_26 rfl rfl ?_
        refine q_getG (v := (fC q0 0)) eX6_add_27 fl_6_11 h0 rfl rfl ?_
        refine q_aload_n 0 eX6_add_30 rfl rfl ?_
        refine q_getI eX6_add_31 fl_6_22 h0 rfl ?_
        refine q_iload_n 1 eX6_add_34 rfl rfl ?_
        refine q_ltI1 (fun y3 => ?_)
        refine q_iast eX6_add_35 (fxC_6_0 q0 h0) (flC_6_0 q0 h0) ?_
        refine q_ltW (fun w4 => ?_)
        refine q_iconst eX6_add_36 kiconst_0 ?_
        refine q_istore_n (lv' := [(3, .int 0), (0, .ref q0), (1, .int a1), (2, .ref q2)]) eX6_add_37 rfl (by decide) rfl ?_
        exact q_sub [1, 3, 0] rfl (jX6_add_l38 X l q0 q2 h0 h2 0 w4)
      · refine q_iconst eX6_add_24 kiconst_m1 ?_
        exact q_ireturn eX6_add_25 rfl
  · refine q_iconst eX6_add_24 kiconst_m1 ?_
    exact q_ireturn eX6_add_25 rfl
def fX6_numbersOf (a0 : Int32) (w : q_W) : Option (Int32 × q_W) :=
  if a0 < 0 then
    some (0, w)
  else
    if 6 ≤ a0 then
      some (0, w)
    else
      if q_inb a0 6 then
      some (((q_stab 0).getD (q_ix a0) 0), w)
      else none
set_option maxHeartbeats 4000000 in
set_option maxRecDepth 100000 in
theorem kX6_numbersOf (X : q_X) (l : Launch) (a0 : Int32) (w : q_W) : q_Ct X S_C l mX6_numbersOf 0 q_tI [.int a0] w (fX6_numbersOf a0 w) := by
  refine q_intro (lv := [(0, .int a0)]) (by decide +kernel) rfl (Nat.le_of_ble_eq_true rfl) rfl ?_
  refine q_iload_n 0 eX6_numbersOf_0 rfl rfl ?_
  refine q_if_lt (tgt := 20) eX6_numbersOf_1 (by decide) (fun _ => ?_) (fun _ => ?_)
  · refine q_iconst eX6_numbersOf_20 kiconst_0 ?_
    exact q_ireturn eX6_numbersOf_21 rfl
  · refine q_iload_n 0 eX6_numbersOf_4 rfl rfl ?_
    refine q_gets 0 eX6_numbersOf_5 (by decide) sl_6_53 ?_
    refine q_slen 0 (v := 6) eX6_numbersOf_8 (by decide) (by decide) ?_
    refine q_icmp_ge (tgt := 20) eX6_numbersOf_9 (by decide) (fun _ => ?_) (fun _ => ?_)
    · refine q_iconst eX6_numbersOf_20 kiconst_0 ?_
      exact q_ireturn eX6_numbersOf_21 rfl
    · refine q_gets 0 eX6_numbersOf_12 (by decide) sl_6_53 ?_
      refine q_iload_n 0 eX6_numbersOf_15 rfl rfl ?_
      refine q_sald 0 eX6_numbersOf_16 (by decide) (n := 6) rfl ?_
      refine q_goto (tgt := 21) eX6_numbersOf_17 (by decide) ?_
      exact q_ireturn eX6_numbersOf_21 rfl
def fX6_fits_n71 (q1 : Nat) (x0 : Int32) (w : q_W) : Option (Int32 × q_W) :=
  if x0 < 0 then
    some (0, w)
  else
    if 4 < x0 then
      some (0, w)
    else
      some (1, w)
set_option maxHeartbeats 4000000 in
set_option maxRecDepth 100000 in
theorem jX6_fits_n71 (X : q_X) (l : Launch) (q1 : Nat) (h1 : cC q1 = 100) (x0 : Int32) (w : q_W) : q_J X S_C l mX6_fits 1 q_tI 71 [(0, .int x0)] [] w (fX6_fits_n71 q1 x0 w) := by
  refine q_iload_n 0 eX6_fits_71 rfl rfl ?_
  refine q_if_lt (tgt := 84) eX6_fits_72 (by decide) (fun _ => ?_) (fun _ => ?_)
  · refine q_iconst eX6_fits_84 kiconst_0 ?_
    exact q_zret eX6_fits_85 rfl rfl
  · refine q_iload_n 0 eX6_fits_75 rfl rfl ?_
    refine q_iconst eX6_fits_76 kiconst_4 ?_
    refine q_icmp_gt (tgt := 84) eX6_fits_77 (by decide) (fun _ => ?_) (fun _ => ?_)
    · refine q_iconst eX6_fits_84 kiconst_0 ?_
      exact q_zret eX6_fits_85 rfl rfl
    · refine q_iconst eX6_fits_80 kiconst_1 ?_
      refine q_goto (tgt := 85) eX6_fits_81 (by decide) ?_
      exact q_zret eX6_fits_85 rfl rfl
def fX6_fits_h2 (q1 : Nat) (rec2 : Int32 → Int32 → q_W → Option (Int32 × q_W)) (x0 : Int32) (x2 : Int32) (w : q_W) : Option (Int32 × q_W) :=
  q_b (fX6_numbersOf x0 w) fun r1 w2 =>
  if r1 ≤ x2 then
    fX6_fits_n71 q1 x0 w2
  else
    if (Int32.ofNat (lC q1)) ≤ x2 then
      fX6_fits_n71 q1 x0 w2
    else
      q_lt ((x0 * 6) + x2) fun y3 =>
      if 30 ≤ y3 then
        some (0, w2)
      else
        if y3 < 30 then
          if q_inb x2 (lC q1) then
          if q_inb y3 30 then
          if (w2.1 q1 (q_ix x2)) < ((q_stab 1).getD (q_ix y3) 0) then
            some (0, w2)
          else
            if q_inb x2 (lC q1) then
            if q_inb y3 30 then
            if (w2.1 q1 (q_ix x2)) ≤ ((q_stab 2).getD (q_ix y3) 0) then
              q_lt (x2 + 1) fun y4 =>
              rec2 x0 y4 w2
            else
              some (0, w2)
            else none
            else none
          else none
          else none
        else
          some (0, w2)
def fX6_fits_l2 (q1 : Nat) : Int32 → Int32 → q_W → Option (Int32 × q_W) := q_it q_N (fX6_fits_h2 q1) (fun _ _ _ => none)
set_option maxHeartbeats 4000000 in
set_option maxRecDepth 100000 in
theorem jX6_fits_h2 (X : q_X) (l : Launch) (q1 : Nat) (h1 : cC q1 = 100) (rec2 : Int32 → Int32 → q_W → Option (Int32 × q_W)) (hr2 : ∀ x0 x2 w, q_J X S_C l mX6_fits 1 q_tI 2 [(0, .int x0), (1, .ref q1), (2, .int x2)] [] w (rec2 x0 x2 w)) : ∀ x0 x2 w, q_J X S_C l mX6_fits 1 q_tI 2 [(0, .int x0), (1, .ref q1), (2, .int x2)] [] w (fX6_fits_h2 q1 rec2 x0 x2 w) := by
  intro x0 x2 w
  refine q_iload_n 2 eX6_fits_2 rfl rfl ?_
  refine q_iload_n 0 eX6_fits_3 rfl rfl ?_
  refine q_callSI (As := [.int x0]) (st := [.int x2]) eX6_fits_4 cv_6_56 (kX6_numbersOf X l x0 w) rfl rfl (Nat.le_of_ble_eq_true rfl) (by decide) (fun r1 w2 => ?_)
  refine q_icmp_ge (tgt := 71) eX6_fits_7 (by decide) (fun _ => ?_) (fun _ => ?_)
  · exact q_sub [0] rfl (jX6_fits_n71 X l q1 h1 x0 w2)
  · refine q_iload_n 2 eX6_fits_10 rfl rfl ?_
    refine q_aload_n 1 eX6_fits_11 rfl rfl ?_
    refine q_alen eX6_fits_12 h1 rfl ?_
    refine q_icmp_ge (tgt := 71) eX6_fits_13 (by decide) (fun _ => ?_) (fun _ => ?_)
    · exact q_sub [0] rfl (jX6_fits_n71 X l q1 h1 x0 w2)
    · refine q_iload_n 0 eX6_fits_16 rfl rfl ?_
      refine q_bipush eX6_fits_17 kbipush_6 ?_
      refine q_imul eX6_fits_19 ?_
      refine q_iload_n 2 eX6_fits_20 rfl rfl ?_
      refine q_iadd eX6_fits_21 ?_
      refine q_ltI (fun y3 => ?_)
      refine q_istore_n (lv' := [(3, .int y3), (0, .int x0), (1, .ref q1), (2, .int x2)]) eX6_fits_22 rfl (by decide) rfl ?_
      refine q_iload_n 0 eX6_fits_23 rfl rfl ?_
      refine q_gets 1 eX6_fits_24 (by decide) sl_6_59 ?_
      refine q_slen 1 (v := 30) eX6_fits_27 (by decide) (by decide) ?_
      refine q_icmp_ge (tgt := 39) eX6_fits_28 (by decide) (fun _ => ?_) (fun _ => ?_)
      · refine q_iconst eX6_fits_39 kiconst_0 ?_
        exact q_zret eX6_fits_40 rfl rfl
      · refine q_iload_n 0 eX6_fits_31 rfl rfl ?_
        refine q_gets 2 eX6_fits_32 (by decide) sl_6_62 ?_
        refine q_slen 2 (v := 30) eX6_fits_35 (by decide) (by decide) ?_
        refine q_icmp_lt (tgt := 41) eX6_fits_36 (by decide) (fun _ => ?_) (fun _ => ?_)
        · refine q_aload_n 2 eX6_fits_41 rfl rfl ?_
          refine q_iload_n 3 eX6_fits_42 rfl rfl ?_
          refine q_iald eX6_fits_43 h1 rfl ?_
          refine q_gets 1 eX6_fits_44 (by decide) sl_6_59 ?_
          refine q_iload_n 0 eX6_fits_47 rfl rfl ?_
          refine q_sald 1 eX6_fits_48 (by decide) (n := 30) rfl ?_
          refine q_icmp_lt (tgt := 63) eX6_fits_49 (by decide) (fun _ => ?_) (fun _ => ?_)
          · refine q_iconst eX6_fits_63 kiconst_0 ?_
            exact q_zret eX6_fits_64 rfl rfl
          · refine q_aload_n 2 eX6_fits_52 rfl rfl ?_
            refine q_iload_n 3 eX6_fits_53 rfl rfl ?_
            refine q_iald eX6_fits_54 h1 rfl ?_
            refine q_gets 2 eX6_fits_55 (by decide) sl_6_62 ?_
            refine q_iload_n 0 eX6_fits_58 rfl rfl ?_
            refine q_sald 2 eX6_fits_59 (by decide) (n := 30) rfl ?_
            refine q_icmp_le (tgt := 65) eX6_fits_60 (by decide) (fun _ => ?_) (fun _ => ?_)
            · refine q_ltE (fun y4 hy4 => ?_)
              refine q_iinc (v := y4) (lv' := [(2, .int y4), (3, .int y3), (0, .int x0), (1, .ref q1)]) 3 eX6_fits_65 rfl hy4 (by decide) rfl ?_
              refine q_goto (tgt := 2) eX6_fits_68 (by decide) ?_
              exact q_sub [2, 3, 0] rfl (hr2 x0 y4 w2)
            · refine q_iconst eX6_fits_63 kiconst_0 ?_
              exact q_zret eX6_fits_64 rfl rfl
        · refine q_iconst eX6_fits_39 kiconst_0 ?_
          exact q_zret eX6_fits_40 rfl rfl
set_option maxHeartbeats 4000000 in
set_option maxRecDepth 100000 in
theorem jX6_fits_l2 (X : q_X) (l : Launch) (q1 : Nat) (h1 : cC q1 = 100) : ∀ x0 x2 w, q_J X S_C l mX6_fits 1 q_tI 2 [(0, .int x0), (1, .ref q1), (2, .int x2)] [] w (fX6_fits_l2 q1 x0 x2 w) := by
  exact q_it_ind (fun rc => ∀ x0 x2 w, q_J X S_C l mX6_fits 1 q_tI 2 [(0, .int x0), (1, .ref q1), (2, .int x2)] [] w (rc x0 x2 w)) _ _ (fun _ _ _ => q_none) (fun rc hrc => jX6_fits_h2 X l q1 h1 rc hrc) q_N
def fX6_fits (a0 : Int32) (q1 : Nat) (w : q_W) : Option (Int32 × q_W) :=
  if cC q1 = 100 then
  fX6_fits_l2 q1 a0 0 w
  else none
set_option maxHeartbeats 4000000 in
set_option maxRecDepth 100000 in
theorem kX6_fits (X : q_X) (l : Launch) (a0 : Int32) (q1 : Nat) (w : q_W) : q_Ct X S_C l mX6_fits 1 q_tI [.int a0, .ref q1] w (fX6_fits a0 q1 w) := by
  refine q_intro (lv := [(0, .int a0), (1, .ref q1)]) (by decide +kernel) rfl (Nat.le_of_ble_eq_true rfl) rfl ?_
  refine q_ck (fun h1 => ?_)
  refine q_iconst eX6_fits_0 kiconst_0 ?_
  refine q_istore_n (lv' := [(2, .int 0), (0, .int a0), (1, .ref q1)]) eX6_fits_1 rfl (by decide) rfl ?_
  exact q_sub [1, 2, 0] rfl (jX6_fits_l2 X l q1 h1 a0 0 w)
def fX1_stroke_h15 (rec15 : Int32 → Int32 → q_W → Option (Unit × q_W)) (x1 : Int32) (x2 : Int32) (w : q_W) : Option (Unit × q_W) :=
  if x2 < 0 then
    q_b (fX6_fits x1 36 w) fun r1 w2 =>
    if r1 = 0 then
      q_b (fX1_breakOff 2 w2) fun r3 w4 =>
      some ((), w4)
    else
      if cC (w2.2.1 31 6) = 6 then
      q_b (fX6_isFull (w2.2.1 31 6) w2) fun r6 w7 =>
      if r6 = 0 then
        if cC (w7.2.1 31 6) = 6 then
        q_b (fX6_add (w7.2.1 31 6) x1 36 w7) fun r9 w10 =>
        some ((), w10)
        else none
      else
        q_b (fX1_breakOff 4 w7) fun r11 w12 =>
        some ((), w12)
      else none
  else
    q_b (fX1_pop w) fun r13 w14 =>
    if q_inb x2 6 then
    q_lt (q_sI w14 36 (q_ix x2) r13) fun w15 =>
    q_lt (x2 + (-1)) fun y16 =>
    rec15 x1 y16 w15
    else none
def fX1_stroke_l15 : Int32 → Int32 → q_W → Option (Unit × q_W) := q_it q_N (fX1_stroke_h15) (fun _ _ _ => none)
set_option maxHeartbeats 4000000 in
set_option maxRecDepth 100000 in
theorem jX1_stroke_h15 (X : q_X) (l : Launch) (rec15 : Int32 → Int32 → q_W → Option (Unit × q_W)) (hr15 : ∀ x1 x2 w, q_J X S_C l mX1_stroke 2 q_tV 15 [(0, .ref 31), (1, .int x1), (2, .int x2)] [] w (rec15 x1 x2 w)) : ∀ x1 x2 w, q_J X S_C l mX1_stroke 2 q_tV 15 [(0, .ref 31), (1, .int x1), (2, .int x2)] [] w (fX1_stroke_h15 rec15 x1 x2 w) := by
  intro x1 x2 w
  refine q_iload_n 2 eX1_stroke_15 rfl rfl ?_
  refine q_if_lt (tgt := 35) eX1_stroke_16 (by decide) (fun _ => ?_) (fun _ => ?_)
  · refine q_iload_n 1 eX1_stroke_35 rfl rfl ?_
    refine q_aload_n 0 eX1_stroke_36 rfl rfl ?_
    refine q_getG (v := 36) eX1_stroke_37 fl_1_26 tC_31 rfl gC_31_4 ?_
    refine q_callSI (As := [.int x1, .ref 36]) (st := []) eX1_stroke_40 cv_1_134 (kX6_fits X l x1 36 w) rfl rfl (Nat.le_of_ble_eq_true rfl) (by decide) (fun r1 w2 => ?_)
    refine q_if_ne (tgt := 54) eX1_stroke_43 (by decide) (fun _ => ?_) (fun _ => ?_)
    · refine q_aload_n 0 eX1_stroke_46 rfl rfl ?_
      refine q_iconst eX1_stroke_47 kiconst_2 ?_
      refine q_callVV (As := [.int 2]) (st := []) eX1_stroke_48 cv_1_112 (kX1_breakOff X l 2 w2) tC_31 rfl (by decide) rfl rfl (Nat.le_of_ble_eq_true rfl) (by decide) (fun r3 w4 => ?_)
      refine q_goto (tgt := 85) eX1_stroke_51 (by decide) ?_
      exact q_return eX1_stroke_85 rfl
    · refine q_aload_n 0 eX1_stroke_54 rfl rfl ?_
      refine q_getR eX1_stroke_55 fl_1_33 tC_31 rfl ?_
      refine q_ck (fun g5 => ?_)
      refine q_callVI (As := []) (st := []) eX1_stroke_58 cv_1_138 (kX6_isFull X l (w2.2.1 31 6) w2) g5 rfl (by decide) rfl rfl (Nat.le_of_ble_eq_true rfl) (by decide) (fun r6 w7 => ?_)
      refine q_if_eq (tgt := 72) eX1_stroke_61 (by decide) (fun _ => ?_) (fun _ => ?_)
      · refine q_aload_n 0 eX1_stroke_72 rfl rfl ?_
        refine q_getR eX1_stroke_73 fl_1_33 tC_31 rfl ?_
        refine q_ck (fun g8 => ?_)
        refine q_iload_n 1 eX1_stroke_76 rfl rfl ?_
        refine q_aload_n 0 eX1_stroke_77 rfl rfl ?_
        refine q_getG (v := 36) eX1_stroke_78 fl_1_26 tC_31 rfl gC_31_4 ?_
        refine q_callVI (As := [.int x1, .ref 36]) (st := []) eX1_stroke_81 cv_1_142 (kX6_add X l (w7.2.1 31 6) x1 36 w7) g8 rfl (by decide) rfl rfl (Nat.le_of_ble_eq_true rfl) (by decide) (fun r9 w10 => ?_)
        refine q_pop eX1_stroke_84 rfl ?_
        exact q_return eX1_stroke_85 rfl
      · refine q_aload_n 0 eX1_stroke_64 rfl rfl ?_
        refine q_iconst eX1_stroke_65 kiconst_4 ?_
        refine q_callVV (As := [.int 4]) (st := []) eX1_stroke_66 cv_1_112 (kX1_breakOff X l 4 w7) tC_31 rfl (by decide) rfl rfl (Nat.le_of_ble_eq_true rfl) (by decide) (fun r11 w12 => ?_)
        refine q_goto (tgt := 85) eX1_stroke_69 (by decide) ?_
        exact q_return eX1_stroke_85 rfl
  · refine q_aload_n 0 eX1_stroke_19 rfl rfl ?_
    refine q_getG (v := 36) eX1_stroke_20 fl_1_26 tC_31 rfl gC_31_4 ?_
    refine q_iload_n 2 eX1_stroke_23 rfl rfl ?_
    refine q_aload_n 0 eX1_stroke_24 rfl rfl ?_
    refine q_callVI (As := []) (st := [.int x2, .ref 36]) eX1_stroke_25 cv_1_90 (kX1_pop X l w) tC_31 rfl (by decide) rfl rfl (Nat.le_of_ble_eq_true rfl) (by decide) (fun r13 w14 => ?_)
    refine q_iast eX1_stroke_28 tC_36 nC_36 ?_
    refine q_ltW (fun w15 => ?_)
    refine q_ltE (fun y16 hy16 => ?_)
    refine q_iinc (v := y16) (lv' := [(2, .int y16), (0, .ref 31), (1, .int x1)]) 2 eX1_stroke_29 rfl hy16 (by decide) rfl ?_
    refine q_goto (tgt := 15) eX1_stroke_32 (by decide) ?_
    exact q_sub [1, 2, 0] rfl (hr15 x1 y16 w15)
set_option maxHeartbeats 4000000 in
set_option maxRecDepth 100000 in
theorem jX1_stroke_l15 (X : q_X) (l : Launch) : ∀ x1 x2 w, q_J X S_C l mX1_stroke 2 q_tV 15 [(0, .ref 31), (1, .int x1), (2, .int x2)] [] w (fX1_stroke_l15 x1 x2 w) := by
  exact q_it_ind (fun rc => ∀ x1 x2 w, q_J X S_C l mX1_stroke 2 q_tV 15 [(0, .ref 31), (1, .int x1), (2, .int x2)] [] w (rc x1 x2 w)) _ _ (fun _ _ _ => q_none) (fun rc hrc => jX1_stroke_h15 X l rc hrc) q_N
def fX1_stroke (a1 : Int32) (w : q_W) : Option (Unit × q_W) :=
  q_b (fX6_numbersOf a1 w) fun r1 w2 =>
  q_lt ((q_imin r1 6) - 1) fun y3 =>
  fX1_stroke_l15 a1 y3 w2
set_option maxHeartbeats 4000000 in
set_option maxRecDepth 100000 in
theorem kX1_stroke (X : q_X) (l : Launch) (a1 : Int32) (w : q_W) : q_Ct X S_C l mX1_stroke 2 q_tV [.ref 31, .int a1] w (fX1_stroke a1 w) := by
  refine q_intro (lv := [(0, .ref 31), (1, .int a1)]) (by decide +kernel) rfl (Nat.le_of_ble_eq_true rfl) rfl ?_
  refine q_iload_n 1 eX1_stroke_0 rfl rfl ?_
  refine q_callSI (As := [.int a1]) (st := []) eX1_stroke_1 cv_1_125 (kX6_numbersOf X l a1 w) rfl rfl (Nat.le_of_ble_eq_true rfl) (by decide) (fun r1 w2 => ?_)
  refine q_aload_n 0 eX1_stroke_4 rfl rfl ?_
  refine q_getG (v := 36) eX1_stroke_5 fl_1_26 tC_31 rfl gC_31_4 ?_
  refine q_alen eX1_stroke_8 tC_36 nC_36 ?_
  refine q_mmin eX1_stroke_9 cv_1_128 (Nat.le_of_ble_eq_true rfl) (by decide) ?_
  refine q_iconst eX1_stroke_12 kiconst_1 ?_
  refine q_isub eX1_stroke_13 ?_
  refine q_ltI (fun y3 => ?_)
  refine q_istore_n (lv' := [(2, .int y3), (0, .ref 31), (1, .int a1)]) eX1_stroke_14 rfl (by decide) rfl ?_
  exact q_sub [1, 2, 0] rfl (jX1_stroke_l15 X l a1 y3 w2)
def fX1_nextTurn (a1 : Int32) (a2 : Int32) (w : q_W) : Option (Unit × q_W) :=
  q_lt (((w.1 31 9) * 8) + a1) fun y1 =>
  if y1 < 0 then
    some ((), w)
  else
    if 64 ≤ y1 then
      some ((), w)
    else
      if 64 ≤ y1 then
        some ((), w)
      else
        if q_inb y1 64 then
        if q_inb y1 64 then
        if (w.1 34 (q_ix y1)) ≤ (w.1 33 (q_ix y1)) then
          some ((), w)
        else
          if q_inb y1 64 then
          if q_inb y1 64 then
          q_lt (q_sI w 33 (q_ix y1) ((w.1 33 (q_ix y1)) + 1)) fun w2 =>
          q_lt (q_sI w2 31 7 a2) fun w3 =>
          some ((), w3)
          else none
          else none
        else none
        else none
set_option maxHeartbeats 4000000 in
set_option maxRecDepth 100000 in
theorem kX1_nextTurn (X : q_X) (l : Launch) (a1 : Int32) (a2 : Int32) (w : q_W) : q_Ct X S_C l mX1_nextTurn 0 q_tV [.ref 31, .int a1, .int a2] w (fX1_nextTurn a1 a2 w) := by
  refine q_intro (lv := [(0, .ref 31), (1, .int a1), (2, .int a2)]) (by decide +kernel) rfl (Nat.le_of_ble_eq_true rfl) rfl ?_
  refine q_aload_n 0 eX1_nextTurn_0 rfl rfl ?_
  refine q_getI eX1_nextTurn_1 fl_1_48 tC_31 rfl ?_
  refine q_bipush eX1_nextTurn_4 kbipush_8 ?_
  refine q_imul eX1_nextTurn_6 ?_
  refine q_iload_n 1 eX1_nextTurn_7 rfl rfl ?_
  refine q_iadd eX1_nextTurn_8 ?_
  refine q_ltI (fun y1 => ?_)
  refine q_istore_n (lv' := [(3, .int y1), (0, .ref 31), (1, .int a1), (2, .int a2)]) eX1_nextTurn_9 rfl (by decide) rfl ?_
  refine q_iload_n 0 eX1_nextTurn_10 rfl rfl ?_
  refine q_if_lt (tgt := 62) eX1_nextTurn_11 (by decide) (fun _ => ?_) (fun _ => ?_)
  · exact q_return eX1_nextTurn_62 rfl
  · refine q_iload_n 0 eX1_nextTurn_14 rfl rfl ?_
    refine q_aload_n 1 eX1_nextTurn_15 rfl rfl ?_
    refine q_getG (v := 33) eX1_nextTurn_16 fl_1_15 tC_31 rfl gC_31_1 ?_
    refine q_alen eX1_nextTurn_19 tC_33 nC_33 ?_
    refine q_icmp_ge (tgt := 62) eX1_nextTurn_20 (by decide) (fun _ => ?_) (fun _ => ?_)
    · exact q_return eX1_nextTurn_62 rfl
    · refine q_iload_n 0 eX1_nextTurn_23 rfl rfl ?_
      refine q_aload_n 1 eX1_nextTurn_24 rfl rfl ?_
      refine q_getG (v := 34) eX1_nextTurn_25 fl_1_18 tC_31 rfl gC_31_2 ?_
      refine q_alen eX1_nextTurn_28 tC_34 nC_34 ?_
      refine q_icmp_ge (tgt := 62) eX1_nextTurn_29 (by decide) (fun _ => ?_) (fun _ => ?_)
      · exact q_return eX1_nextTurn_62 rfl
      · refine q_aload_n 1 eX1_nextTurn_32 rfl rfl ?_
        refine q_getG (v := 33) eX1_nextTurn_33 fl_1_15 tC_31 rfl gC_31_1 ?_
        refine q_iload_n 0 eX1_nextTurn_36 rfl rfl ?_
        refine q_iald eX1_nextTurn_37 tC_33 nC_33 ?_
        refine q_aload_n 1 eX1_nextTurn_38 rfl rfl ?_
        refine q_getG (v := 34) eX1_nextTurn_39 fl_1_18 tC_31 rfl gC_31_2 ?_
        refine q_iload_n 0 eX1_nextTurn_42 rfl rfl ?_
        refine q_iald eX1_nextTurn_43 tC_34 nC_34 ?_
        refine q_icmp_ge (tgt := 62) eX1_nextTurn_44 (by decide) (fun _ => ?_) (fun _ => ?_)
        · exact q_return eX1_nextTurn_62 rfl
        · refine q_aload_n 1 eX1_nextTurn_47 rfl rfl ?_
          refine q_getG (v := 33) eX1_nextTurn_48 fl_1_15 tC_31 rfl gC_31_1 ?_
          refine q_iload_n 0 eX1_nextTurn_51 rfl rfl ?_
          refine q_dup2 eX1_nextTurn_52 rfl rfl ?_
          refine q_iald eX1_nextTurn_53 tC_33 nC_33 ?_
          refine q_iconst eX1_nextTurn_54 kiconst_1 ?_
          refine q_iadd eX1_nextTurn_55 ?_
          refine q_iast eX1_nextTurn_56 tC_33 nC_33 ?_
          refine q_ltW (fun w2 => ?_)
          refine q_aload_n 1 eX1_nextTurn_57 rfl rfl ?_
          refine q_iload_n 3 eX1_nextTurn_58 rfl rfl ?_
          refine q_putI eX1_nextTurn_59 fp_1_41 tC_31 rfl ⟨rfl, rfl⟩ ?_
          refine q_ltW (fun w3 => ?_)
          exact q_return eX1_nextTurn_62 rfl
def fX1_settle_n14 (x1 : Int32) (x2 : Int32) (x3 : Int32) (s0 : Int32) (w : q_W) : Option (Unit × q_W) :=
  if s0 = x1 then
    q_b (fX1_push x3 w) fun r1 w2 =>
    q_lt (q_sI w2 31 7 x2) fun w3 =>
    some ((), w3)
  else
    some ((), w)
set_option maxHeartbeats 4000000 in
set_option maxRecDepth 100000 in
theorem jX1_settle_n14 (X : q_X) (l : Launch) (x1 : Int32) (x2 : Int32) (x3 : Int32) (s0 : Int32) (w : q_W) : q_J X S_C l mX1_settle 1 q_tV 14 [(0, .ref 31), (1, .int x1), (2, .int x2), (3, .int x3)] [.int s0] w (fX1_settle_n14 x1 x2 x3 s0 w) := by
  refine q_iload_n 1 eX1_settle_14 rfl rfl ?_
  refine q_icmp_ne (tgt := 28) eX1_settle_15 (by decide) (fun _ => ?_) (fun _ => ?_)
  · refine q_aload_n 0 eX1_settle_18 rfl rfl ?_
    refine q_iload_n 3 eX1_settle_19 rfl rfl ?_
    refine q_callVV (As := [.int x3]) (st := []) eX1_settle_20 cv_1_84 (kX1_push X l x3 w) tC_31 rfl (by decide) rfl rfl (Nat.le_of_ble_eq_true rfl) (by decide) (fun r1 w2 => ?_)
    refine q_aload_n 0 eX1_settle_23 rfl rfl ?_
    refine q_iload_n 2 eX1_settle_24 rfl rfl ?_
    refine q_putI eX1_settle_25 fp_1_41 tC_31 rfl ⟨rfl, rfl⟩ ?_
    refine q_ltW (fun w3 => ?_)
    exact q_return eX1_settle_28 rfl
  · exact q_return eX1_settle_28 rfl
def fX1_settle (a1 : Int32) (a2 : Int32) (w : q_W) : Option (Unit × q_W) :=
  q_b (fX1_pop w) fun r1 w2 =>
  if r1 = 0 then
    fX1_settle_n14 a1 a2 r1 0 w2
  else
    fX1_settle_n14 a1 a2 r1 1 w2
set_option maxHeartbeats 4000000 in
set_option maxRecDepth 100000 in
theorem kX1_settle (X : q_X) (l : Launch) (a1 : Int32) (a2 : Int32) (w : q_W) : q_Ct X S_C l mX1_settle 1 q_tV [.ref 31, .int a1, .int a2] w (fX1_settle a1 a2 w) := by
  refine q_intro (lv := [(0, .ref 31), (1, .int a1), (2, .int a2)]) (by decide +kernel) rfl (Nat.le_of_ble_eq_true rfl) rfl ?_
  refine q_aload_n 0 eX1_settle_0 rfl rfl ?_
  refine q_callVI (As := []) (st := []) eX1_settle_1 cv_1_90 (kX1_pop X l w) tC_31 rfl (by decide) rfl rfl (Nat.le_of_ble_eq_true rfl) (by decide) (fun r1 w2 => ?_)
  refine q_istore_n (lv' := [(3, .int r1), (0, .ref 31), (1, .int a1), (2, .int a2)]) eX1_settle_4 rfl (by decide) rfl ?_
  refine q_iload_n 0 eX1_settle_5 rfl rfl ?_
  refine q_if_eq (tgt := 13) eX1_settle_6 (by decide) (fun _ => ?_) (fun _ => ?_)
  · refine q_iconst eX1_settle_13 kiconst_0 ?_
    exact q_sub [1, 2, 3, 0] rfl (jX1_settle_n14 X l a1 a2 r1 0 w2)
  · refine q_iconst eX1_settle_9 kiconst_1 ?_
    refine q_goto (tgt := 14) eX1_settle_10 (by decide) ?_
    exact q_sub [1, 2, 3, 0] rfl (jX1_settle_n14 X l a1 a2 r1 1 w2)
def fX1_startLoop (a1 : Int32) (a2 : Int32) (w : q_W) : Option (Unit × q_W) :=
  q_b (fX1_pop w) fun r1 w2 =>
  q_b (fX1_pop w2) fun r3 w4 =>
  if r3 ≤ r1 then
    q_b (fX1_setValue a1 r3 w4) fun r5 w6 =>
    q_lt (((w6.1 31 9) * 8) + a1) fun y7 =>
    if y7 < 0 then
      some ((), w6)
    else
      if 64 ≤ y7 then
        some ((), w6)
      else
        if q_inb y7 64 then
        q_lt (q_sI w6 34 (q_ix y7) r1) fun w8 =>
        some ((), w8)
        else none
  else
    q_lt (q_sI w4 31 7 a2) fun w9 =>
    some ((), w9)
set_option maxHeartbeats 4000000 in
set_option maxRecDepth 100000 in
theorem kX1_startLoop (X : q_X) (l : Launch) (a1 : Int32) (a2 : Int32) (w : q_W) : q_Ct X S_C l mX1_startLoop 1 q_tV [.ref 31, .int a1, .int a2] w (fX1_startLoop a1 a2 w) := by
  refine q_intro (lv := [(0, .ref 31), (1, .int a1), (2, .int a2)]) (by decide +kernel) rfl (Nat.le_of_ble_eq_true rfl) rfl ?_
  refine q_aload_n 0 eX1_startLoop_0 rfl rfl ?_
  refine q_callVI (As := []) (st := []) eX1_startLoop_1 cv_1_90 (kX1_pop X l w) tC_31 rfl (by decide) rfl rfl (Nat.le_of_ble_eq_true rfl) (by decide) (fun r1 w2 => ?_)
  refine q_istore_n (lv' := [(3, .int r1), (0, .ref 31), (1, .int a1), (2, .int a2)]) eX1_startLoop_4 rfl (by decide) rfl ?_
  refine q_aload_n 1 eX1_startLoop_5 rfl rfl ?_
  refine q_callVI (As := []) (st := []) eX1_startLoop_6 cv_1_90 (kX1_pop X l w2) tC_31 rfl (by decide) rfl rfl (Nat.le_of_ble_eq_true rfl) (by decide) (fun r3 w4 => ?_)
  refine q_istore (lv' := [(4, .int r3), (3, .int r1), (0, .ref 31), (1, .int a1), (2, .int a2)]) eX1_startLoop_9 (by decide) rfl ?_
  refine q_iload_n 1 eX1_startLoop_11 rfl rfl ?_
  refine q_iload 0 eX1_startLoop_12 rfl ?_
  refine q_icmp_ge (tgt := 23) eX1_startLoop_14 (by decide) (fun _ => ?_) (fun _ => ?_)
  · refine q_aload_n 2 eX1_startLoop_23 rfl rfl ?_
    refine q_iload_n 3 eX1_startLoop_24 rfl rfl ?_
    refine q_iload 0 eX1_startLoop_25 rfl ?_
    refine q_callVV (As := [.int a1, .int r3]) (st := []) eX1_startLoop_27 cv_1_65 (kX1_setValue X l a1 r3 w4) tC_31 rfl (by decide) rfl rfl (Nat.le_of_ble_eq_true rfl) (by decide) (fun r5 w6 => ?_)
    refine q_aload_n 2 eX1_startLoop_30 rfl rfl ?_
    refine q_getI eX1_startLoop_31 fl_1_48 tC_31 rfl ?_
    refine q_bipush eX1_startLoop_34 kbipush_8 ?_
    refine q_imul eX1_startLoop_36 ?_
    refine q_iload_n 3 eX1_startLoop_37 rfl rfl ?_
    refine q_iadd eX1_startLoop_38 ?_
    refine q_ltI (fun y7 => ?_)
    refine q_istore (lv' := [(5, .int y7), (4, .int r3), (3, .int r1), (0, .ref 31), (1, .int a1), (2, .int a2)]) eX1_startLoop_39 (by decide) rfl ?_
    refine q_iload 0 eX1_startLoop_41 rfl ?_
    refine q_if_lt (tgt := 64) eX1_startLoop_43 (by decide) (fun _ => ?_) (fun _ => ?_)
    · exact q_return eX1_startLoop_64 rfl
    · refine q_iload 0 eX1_startLoop_46 rfl ?_
      refine q_aload_n 3 eX1_startLoop_48 rfl rfl ?_
      refine q_getG (v := 34) eX1_startLoop_49 fl_1_18 tC_31 rfl gC_31_2 ?_
      refine q_alen eX1_startLoop_52 tC_34 nC_34 ?_
      refine q_icmp_ge (tgt := 64) eX1_startLoop_53 (by decide) (fun _ => ?_) (fun _ => ?_)
      · exact q_return eX1_startLoop_64 rfl
      · refine q_aload_n 3 eX1_startLoop_56 rfl rfl ?_
        refine q_getG (v := 34) eX1_startLoop_57 fl_1_18 tC_31 rfl gC_31_2 ?_
        refine q_iload 0 eX1_startLoop_60 rfl ?_
        refine q_iload_n 2 eX1_startLoop_62 rfl rfl ?_
        refine q_iast eX1_startLoop_63 tC_34 nC_34 ?_
        refine q_ltW (fun w8 => ?_)
        exact q_return eX1_startLoop_64 rfl
  · refine q_aload_n 2 eX1_startLoop_17 rfl rfl ?_
    refine q_iload_n 4 eX1_startLoop_18 rfl rfl ?_
    refine q_putI eX1_startLoop_19 fp_1_41 tC_31 rfl ⟨rfl, rfl⟩ ?_
    refine q_ltW (fun w9 => ?_)
    exact q_return eX1_startLoop_22 rfl
def fX1_turn_n114 (w : q_W) : Option (Unit × q_W) :=
  q_b (fX1_breakOff 1 w) fun r1 w2 =>
  some ((), w2)
set_option maxHeartbeats 4000000 in
set_option maxRecDepth 100000 in
theorem jX1_turn_n114 (X : q_X) (l : Launch) (w : q_W) : q_J X S_C l mX1_turn 2 q_tV 114 [(0, .ref 31)] [] w (fX1_turn_n114 w) := by
  refine q_aload_n 0 eX1_turn_114 rfl rfl ?_
  refine q_iconst eX1_turn_115 kiconst_1 ?_
  refine q_callVV (As := [.int 1]) (st := []) eX1_turn_116 cv_1_112 (kX1_breakOff X l 1 w) tC_31 rfl (by decide) rfl rfl (Nat.le_of_ble_eq_true rfl) (by decide) (fun r1 w2 => ?_)
  exact q_return eX1_turn_119 rfl
def fX1_turn_n60 (x2 : Int32) (s0 : Int32) (w : q_W) : Option (Unit × q_W) :=
  q_b (fX1_settle s0 x2 w) fun r1 w2 =>
  some ((), w2)
set_option maxHeartbeats 4000000 in
set_option maxRecDepth 100000 in
theorem jX1_turn_n60 (X : q_X) (l : Launch) (x2 : Int32) (s0 : Int32) (w : q_W) : q_J X S_C l mX1_turn 2 q_tV 60 [(2, .int x2)] [.int s0, .ref 31] w (fX1_turn_n60 x2 s0 w) := by
  refine q_iload_n 0 eX1_turn_60 rfl rfl ?_
  refine q_callVV (As := [.int s0, .int x2]) (st := []) eX1_turn_61 cv_1_115 (kX1_settle X l s0 x2 w) tC_31 rfl (by decide) rfl rfl (Nat.le_of_ble_eq_true rfl) (by decide) (fun r1 w2 => ?_)
  refine q_goto (tgt := 119) eX1_turn_64 (by decide) ?_
  exact q_return eX1_turn_119 rfl
def fX1_turn_n48 (x1 : Int32) (x2 : Int32) (w : q_W) : Option (Unit × q_W) :=
  if x1 = 15 then
    fX1_turn_n60 x2 1 w
  else
    fX1_turn_n60 x2 0 w
set_option maxHeartbeats 4000000 in
set_option maxRecDepth 100000 in
theorem jX1_turn_n48 (X : q_X) (l : Launch) (x1 : Int32) (x2 : Int32) (w : q_W) : q_J X S_C l mX1_turn 2 q_tV 48 [(0, .ref 31), (1, .int x1), (2, .int x2)] [] w (fX1_turn_n48 x1 x2 w) := by
  refine q_aload_n 0 eX1_turn_48 rfl rfl ?_
  refine q_iload_n 1 eX1_turn_49 rfl rfl ?_
  refine q_bipush eX1_turn_50 kbipush_15 ?_
  refine q_icmp_ne (tgt := 59) eX1_turn_52 (by decide) (fun _ => ?_) (fun _ => ?_)
  · refine q_iconst eX1_turn_55 kiconst_1 ?_
    refine q_goto (tgt := 60) eX1_turn_56 (by decide) ?_
    exact q_sub [2] rfl (jX1_turn_n60 X l x2 1 w)
  · refine q_iconst eX1_turn_59 kiconst_0 ?_
    exact q_sub [2] rfl (jX1_turn_n60 X l x2 0 w)
def fX1_turn (a1 : Int32) (w : q_W) : Option (Unit × q_W) :=
  q_b (fX1_nextWord w) fun r1 w2 =>
  if a1 = 14 then
    fX1_turn_n48 a1 r1 w2
  else if a1 = 15 then
    fX1_turn_n48 a1 r1 w2
  else if a1 = 16 then
    q_b (fX1_pop w2) fun r6 w7 =>
    if r6 = 0 then
      q_lt (q_sI w7 31 7 r1) fun w8 =>
      some ((), w8)
    else
      some ((), w7)
  else if a1 = 17 then
    q_lt (q_sI w2 31 7 r1) fun w10 =>
    some ((), w10)
  else if a1 = 18 then
    q_b (fX1_nextWord w2) fun r12 w13 =>
    q_b (fX1_startLoop r1 r12 w13) fun r14 w15 =>
    some ((), w15)
  else if a1 = 20 then
    q_b (fX1_nextWord w2) fun r17 w18 =>
    q_b (fX1_nextTurn r1 r17 w18) fun r19 w20 =>
    some ((), w20)
  else fX1_turn_n114 w2
set_option maxHeartbeats 4000000 in
set_option maxRecDepth 100000 in
theorem kX1_turn (X : q_X) (l : Launch) (a1 : Int32) (w : q_W) : q_Ct X S_C l mX1_turn 2 q_tV [.ref 31, .int a1] w (fX1_turn a1 w) := by
  refine q_intro (lv := [(0, .ref 31), (1, .int a1)]) (by decide +kernel) rfl (Nat.le_of_ble_eq_true rfl) rfl ?_
  refine q_aload_n 0 eX1_turn_0 rfl rfl ?_
  refine q_callVI (As := []) (st := []) eX1_turn_1 cv_1_76 (kX1_nextWord X l w) tC_31 rfl (by decide) rfl rfl (Nat.le_of_ble_eq_true rfl) (by decide) (fun r1 w2 => ?_)
  refine q_istore_n (lv' := [(2, .int r1), (0, .ref 31), (1, .int a1)]) eX1_turn_4 rfl (by decide) rfl ?_
  refine q_iload_n 2 eX1_turn_5 rfl rfl ?_
  refine q_ite (fun c3 => ?_) (fun c3 => ?_)
  · refine q_tabIn (off := 42) (tgt := 48) eX1_turn_6 (by rw [c3]; decide) (by rw [c3]; decide) (by rw [c3]; rfl) (by decide) ?_
    exact q_sub [1, 2, 0] rfl (jX1_turn_n48 X l a1 r1 w2)
  refine q_ite (fun c4 => ?_) (fun c4 => ?_)
  · refine q_tabIn (off := 42) (tgt := 48) eX1_turn_6 (by rw [c4]; decide) (by rw [c4]; decide) (by rw [c4]; rfl) (by decide) ?_
    exact q_sub [1, 2, 0] rfl (jX1_turn_n48 X l a1 r1 w2)
  refine q_ite (fun c5 => ?_) (fun c5 => ?_)
  · refine q_tabIn (off := 61) (tgt := 67) eX1_turn_6 (by rw [c5]; decide) (by rw [c5]; decide) (by rw [c5]; rfl) (by decide) ?_
    refine q_aload_n 1 eX1_turn_67 rfl rfl ?_
    refine q_callVI (As := []) (st := []) eX1_turn_68 cv_1_90 (kX1_pop X l w2) tC_31 rfl (by decide) rfl rfl (Nat.le_of_ble_eq_true rfl) (by decide) (fun r6 w7 => ?_)
    refine q_if_ne (tgt := 119) eX1_turn_71 (by decide) (fun _ => ?_) (fun _ => ?_)
    · refine q_aload_n 1 eX1_turn_74 rfl rfl ?_
      refine q_iload_n 0 eX1_turn_75 rfl rfl ?_
      refine q_putI eX1_turn_76 fp_1_41 tC_31 rfl ⟨rfl, rfl⟩ ?_
      refine q_ltW (fun w8 => ?_)
      refine q_goto (tgt := 119) eX1_turn_79 (by decide) ?_
      exact q_return eX1_turn_119 rfl
    · exact q_return eX1_turn_119 rfl
  refine q_ite (fun c9 => ?_) (fun c9 => ?_)
  · refine q_tabIn (off := 76) (tgt := 82) eX1_turn_6 (by rw [c9]; decide) (by rw [c9]; decide) (by rw [c9]; rfl) (by decide) ?_
    refine q_aload_n 1 eX1_turn_82 rfl rfl ?_
    refine q_iload_n 0 eX1_turn_83 rfl rfl ?_
    refine q_putI eX1_turn_84 fp_1_41 tC_31 rfl ⟨rfl, rfl⟩ ?_
    refine q_ltW (fun w10 => ?_)
    refine q_goto (tgt := 119) eX1_turn_87 (by decide) ?_
    exact q_return eX1_turn_119 rfl
  refine q_ite (fun c11 => ?_) (fun c11 => ?_)
  · refine q_tabIn (off := 84) (tgt := 90) eX1_turn_6 (by rw [c11]; decide) (by rw [c11]; decide) (by rw [c11]; rfl) (by decide) ?_
    refine q_aload_n 1 eX1_turn_90 rfl rfl ?_
    refine q_iload_n 0 eX1_turn_91 rfl rfl ?_
    refine q_aload_n 1 eX1_turn_92 rfl rfl ?_
    refine q_callVI (As := []) (st := [.int r1, .ref 31]) eX1_turn_93 cv_1_76 (kX1_nextWord X l w2) tC_31 rfl (by decide) rfl rfl (Nat.le_of_ble_eq_true rfl) (by decide) (fun r12 w13 => ?_)
    refine q_callVV (As := [.int r1, .int r12]) (st := []) eX1_turn_96 cv_1_119 (kX1_startLoop X l r1 r12 w13) tC_31 rfl (by decide) rfl rfl (Nat.le_of_ble_eq_true rfl) (by decide) (fun r14 w15 => ?_)
    refine q_goto (tgt := 119) eX1_turn_99 (by decide) ?_
    exact q_return eX1_turn_119 rfl
  refine q_ite (fun c16 => ?_) (fun c16 => ?_)
  · refine q_tabIn (off := 96) (tgt := 102) eX1_turn_6 (by rw [c16]; decide) (by rw [c16]; decide) (by rw [c16]; rfl) (by decide) ?_
    refine q_aload_n 1 eX1_turn_102 rfl rfl ?_
    refine q_iload_n 0 eX1_turn_103 rfl rfl ?_
    refine q_aload_n 1 eX1_turn_104 rfl rfl ?_
    refine q_callVI (As := []) (st := [.int r1, .ref 31]) eX1_turn_105 cv_1_76 (kX1_nextWord X l w2) tC_31 rfl (by decide) rfl rfl (Nat.le_of_ble_eq_true rfl) (by decide) (fun r17 w18 => ?_)
    refine q_callVV (As := [.int r1, .int r17]) (st := []) eX1_turn_108 cv_1_122 (kX1_nextTurn X l r1 r17 w18) tC_31 rfl (by decide) rfl rfl (Nat.le_of_ble_eq_true rfl) (by decide) (fun r19 w20 => ?_)
    refine q_goto (tgt := 119) eX1_turn_111 (by decide) ?_
    exact q_return eX1_turn_119 rfl
  refine q_tabD (x := a1) (tgt := 114) eX1_turn_6 (by intro z1 z2; have zc3 := lv_neT (a := 14) c3 rfl; have zc4 := lv_neT (a := 15) c4 rfl; have zc5 := lv_neT (a := 16) c5 rfl; have zc9 := lv_neT (a := 17) c9 rfl; have zc11 := lv_neT (a := 18) c11 rfl; have zc16 := lv_neT (a := 20) c16 rfl; have zz : Int32.toInt a1 = 19 := (by omega); rw [zz]; rfl) (by decide) ?_
  exact q_sub [1] rfl (jX1_turn_n114 X l w2)
