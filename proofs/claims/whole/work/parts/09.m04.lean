/-! methods, printed by program: X5_readProduct X5_readSum tieA X5_relationOf X5_readCondition X5_readDo X5_readStroke X5_startsDeed X5_readFor X5_readIf X5_readDeed X5_readDeeds tieB X5_readReach X5_readPattern X7_isDigit X7_isLetter X9_byteAt -/
def fX5_readProduct_n71 (rU : Int32 → q_W → Option (Unit × q_W)) (rec7 : Int32 → Int32 → q_W → Option (Unit × q_W)) (x1 : Int32) (x2 : Int32) (s0 : Int32) (w : q_W) : Option (Unit × q_W) :=
  q_b (fX5_take (w.1 23 5) w) fun r1 w2 =>
  q_b (rU x1 w2) fun r3 w4 =>
  if cC (w4.2.1 23 11) = 4 then
  q_b (fX4_add (w4.2.1 23 11) s0 w4) fun r6 w7 =>
  q_lt (x2 + 1) fun y8 =>
  rec7 x1 y8 w7
  else none
set_option maxHeartbeats 4000000 in
set_option maxRecDepth 100000 in
theorem jX5_readProduct_n71 (X : q_X) (l : Launch) (d : Nat) (hd0 : 2 ≤ d) (rU : Int32 → q_W → Option (Unit × q_W)) (drU : Nat) (hrU : ∀ a0 w, q_Ct X S_C l mX5_readUnit drU q_tV [.ref 23, .int a0] w (rU a0 w)) (erU : drU + 1 ≤ d) (rec7 : Int32 → Int32 → q_W → Option (Unit × q_W)) (hr7 : ∀ x1 x2 w, q_J X S_C l mX5_readProduct d q_tV 7 [(0, .ref 23), (1, .int x1), (2, .int x2)] [] w (rec7 x1 x2 w)) (x1 : Int32) (x2 : Int32) (s0 : Int32) (w : q_W) : q_J X S_C l mX5_readProduct d q_tV 71 [(0, .ref 23), (1, .int x1), (2, .int x2)] [.int s0] w (fX5_readProduct_n71 rU rec7 x1 x2 s0 w) := by
  refine q_istore_n (lv' := [(3, .int s0), (0, .ref 23), (1, .int x1), (2, .int x2)]) eX5_readProduct_71 rfl (by decide) rfl ?_
  refine q_aload_n 1 eX5_readProduct_72 rfl rfl ?_
  refine q_aload_n 1 eX5_readProduct_73 rfl rfl ?_
  refine q_getI eX5_readProduct_74 fl_5_54 tC_23 rfl ?_
  refine q_callVV (As := [.int (w.1 23 5)]) (st := []) eX5_readProduct_77 cv_5_80 (kX5_take X l (w.1 23 5) w) tC_23 rfl (by decide) rfl rfl (Nat.le_of_ble_eq_true rfl) (by omega) (fun r1 w2 => ?_)
  refine q_aload_n 1 eX5_readProduct_80 rfl rfl ?_
  refine q_iload_n 2 eX5_readProduct_81 rfl rfl ?_
  refine q_callVV (As := [.int x1]) (st := []) eX5_readProduct_82 cv_5_176 (hrU x1 w2) tC_23 rfl (by decide) rfl rfl (Nat.le_of_ble_eq_true rfl) erU (fun r3 w4 => ?_)
  refine q_aload_n 1 eX5_readProduct_85 rfl rfl ?_
  refine q_getR eX5_readProduct_86 fl_5_29 tC_23 rfl ?_
  refine q_ck (fun g5 => ?_)
  refine q_iload_n 0 eX5_readProduct_89 rfl rfl ?_
  refine q_callVV (As := [.int s0]) (st := []) eX5_readProduct_90 cv_5_103 (kX4_add X l (w4.2.1 23 11) s0 w4) g5 rfl (by decide) rfl rfl (Nat.le_of_ble_eq_true rfl) (by omega) (fun r6 w7 => ?_)
  refine q_ltE (fun y8 hy8 => ?_)
  refine q_iinc (v := y8) (lv' := [(2, .int y8), (3, .int s0), (0, .ref 23), (1, .int x1)]) 3 eX5_readProduct_93 rfl hy8 (by decide) rfl ?_
  refine q_goto (tgt := 7) eX5_readProduct_96 (by decide) ?_
  exact q_sub [2, 3, 0] rfl (hr7 x1 y8 w7)
def fX5_readProduct_n41 (rU : Int32 → q_W → Option (Unit × q_W)) (rec7 : Int32 → Int32 → q_W → Option (Unit × q_W)) (x1 : Int32) (x2 : Int32) (w : q_W) : Option (Unit × q_W) :=
  if (w.1 23 5) = 42 then
    fX5_readProduct_n71 rU rec7 x1 x2 7 w
  else
    if (w.1 23 5) = 47 then
      fX5_readProduct_n71 rU rec7 x1 x2 8 w
    else
      fX5_readProduct_n71 rU rec7 x1 x2 9 w
set_option maxHeartbeats 4000000 in
set_option maxRecDepth 100000 in
theorem jX5_readProduct_n41 (X : q_X) (l : Launch) (d : Nat) (hd0 : 2 ≤ d) (rU : Int32 → q_W → Option (Unit × q_W)) (drU : Nat) (hrU : ∀ a0 w, q_Ct X S_C l mX5_readUnit drU q_tV [.ref 23, .int a0] w (rU a0 w)) (erU : drU + 1 ≤ d) (rec7 : Int32 → Int32 → q_W → Option (Unit × q_W)) (hr7 : ∀ x1 x2 w, q_J X S_C l mX5_readProduct d q_tV 7 [(0, .ref 23), (1, .int x1), (2, .int x2)] [] w (rec7 x1 x2 w)) (x1 : Int32) (x2 : Int32) (w : q_W) : q_J X S_C l mX5_readProduct d q_tV 41 [(0, .ref 23), (1, .int x1), (2, .int x2)] [] w (fX5_readProduct_n41 rU rec7 x1 x2 w) := by
  refine q_aload_n 0 eX5_readProduct_41 rfl rfl ?_
  refine q_getI eX5_readProduct_42 fl_5_54 tC_23 rfl ?_
  refine q_bipush eX5_readProduct_45 kbipush_42 ?_
  refine q_icmp_ne (tgt := 55) eX5_readProduct_47 (by decide) (fun _ => ?_) (fun _ => ?_)
  · refine q_bipush eX5_readProduct_50 kbipush_7 ?_
    refine q_goto (tgt := 71) eX5_readProduct_52 (by decide) ?_
    exact q_sub [0, 1, 2] rfl (jX5_readProduct_n71 X l d hd0 rU drU hrU erU rec7 hr7 x1 x2 7 w)
  · refine q_aload_n 0 eX5_readProduct_55 rfl rfl ?_
    refine q_getI eX5_readProduct_56 fl_5_54 tC_23 rfl ?_
    refine q_bipush eX5_readProduct_59 kbipush_47 ?_
    refine q_icmp_ne (tgt := 69) eX5_readProduct_61 (by decide) (fun _ => ?_) (fun _ => ?_)
    · refine q_bipush eX5_readProduct_64 kbipush_8 ?_
      refine q_goto (tgt := 71) eX5_readProduct_66 (by decide) ?_
      exact q_sub [0, 1, 2] rfl (jX5_readProduct_n71 X l d hd0 rU drU hrU erU rec7 hr7 x1 x2 8 w)
    · refine q_bipush eX5_readProduct_69 kbipush_9 ?_
      exact q_sub [0, 1, 2] rfl (jX5_readProduct_n71 X l d hd0 rU drU hrU erU rec7 hr7 x1 x2 9 w)
def fX5_readProduct_h7 (rU : Int32 → q_W → Option (Unit × q_W)) (rec7 : Int32 → Int32 → q_W → Option (Unit × q_W)) (x1 : Int32) (x2 : Int32) (w : q_W) : Option (Unit × q_W) :=
  if 501 ≤ x2 then
    some ((), w)
  else
    if (w.1 23 5) = 42 then
      fX5_readProduct_n41 rU rec7 x1 x2 w
    else
      if (w.1 23 5) = 47 then
        fX5_readProduct_n41 rU rec7 x1 x2 w
      else
        if (w.1 23 5) = 37 then
          fX5_readProduct_n41 rU rec7 x1 x2 w
        else
          some ((), w)
def fX5_readProduct_l7 (rU : Int32 → q_W → Option (Unit × q_W)) : Int32 → Int32 → q_W → Option (Unit × q_W) := q_it q_N (fX5_readProduct_h7 rU) (fun _ _ _ => none)
set_option maxHeartbeats 4000000 in
set_option maxRecDepth 100000 in
theorem jX5_readProduct_h7 (X : q_X) (l : Launch) (d : Nat) (hd0 : 2 ≤ d) (rU : Int32 → q_W → Option (Unit × q_W)) (drU : Nat) (hrU : ∀ a0 w, q_Ct X S_C l mX5_readUnit drU q_tV [.ref 23, .int a0] w (rU a0 w)) (erU : drU + 1 ≤ d) (rec7 : Int32 → Int32 → q_W → Option (Unit × q_W)) (hr7 : ∀ x1 x2 w, q_J X S_C l mX5_readProduct d q_tV 7 [(0, .ref 23), (1, .int x1), (2, .int x2)] [] w (rec7 x1 x2 w)) : ∀ x1 x2 w, q_J X S_C l mX5_readProduct d q_tV 7 [(0, .ref 23), (1, .int x1), (2, .int x2)] [] w (fX5_readProduct_h7 rU rec7 x1 x2 w) := by
  intro x1 x2 w
  refine q_iload_n 2 eX5_readProduct_7 rfl rfl ?_
  refine q_sipush eX5_readProduct_8 ksipush_501 ?_
  refine q_icmp_ge (tgt := 99) eX5_readProduct_11 (by decide) (fun _ => ?_) (fun _ => ?_)
  · exact q_return eX5_readProduct_99 rfl
  · refine q_aload_n 0 eX5_readProduct_14 rfl rfl ?_
    refine q_getI eX5_readProduct_15 fl_5_54 tC_23 rfl ?_
    refine q_bipush eX5_readProduct_18 kbipush_42 ?_
    refine q_icmp_eq (tgt := 41) eX5_readProduct_20 (by decide) (fun _ => ?_) (fun _ => ?_)
    · exact q_sub [0, 1, 2] rfl (jX5_readProduct_n41 X l d hd0 rU drU hrU erU rec7 hr7 x1 x2 w)
    · refine q_aload_n 0 eX5_readProduct_23 rfl rfl ?_
      refine q_getI eX5_readProduct_24 fl_5_54 tC_23 rfl ?_
      refine q_bipush eX5_readProduct_27 kbipush_47 ?_
      refine q_icmp_eq (tgt := 41) eX5_readProduct_29 (by decide) (fun _ => ?_) (fun _ => ?_)
      · exact q_sub [0, 1, 2] rfl (jX5_readProduct_n41 X l d hd0 rU drU hrU erU rec7 hr7 x1 x2 w)
      · refine q_aload_n 0 eX5_readProduct_32 rfl rfl ?_
        refine q_getI eX5_readProduct_33 fl_5_54 tC_23 rfl ?_
        refine q_bipush eX5_readProduct_36 kbipush_37 ?_
        refine q_icmp_ne (tgt := 99) eX5_readProduct_38 (by decide) (fun _ => ?_) (fun _ => ?_)
        · exact q_sub [0, 1, 2] rfl (jX5_readProduct_n41 X l d hd0 rU drU hrU erU rec7 hr7 x1 x2 w)
        · exact q_return eX5_readProduct_99 rfl
set_option maxHeartbeats 4000000 in
set_option maxRecDepth 100000 in
theorem jX5_readProduct_l7 (X : q_X) (l : Launch) (d : Nat) (hd0 : 2 ≤ d) (rU : Int32 → q_W → Option (Unit × q_W)) (drU : Nat) (hrU : ∀ a0 w, q_Ct X S_C l mX5_readUnit drU q_tV [.ref 23, .int a0] w (rU a0 w)) (erU : drU + 1 ≤ d) : ∀ x1 x2 w, q_J X S_C l mX5_readProduct d q_tV 7 [(0, .ref 23), (1, .int x1), (2, .int x2)] [] w (fX5_readProduct_l7 rU x1 x2 w) := by
  exact q_it_ind (fun rc => ∀ x1 x2 w, q_J X S_C l mX5_readProduct d q_tV 7 [(0, .ref 23), (1, .int x1), (2, .int x2)] [] w (rc x1 x2 w)) _ _ (fun _ _ _ => q_none) (fun rc hrc => jX5_readProduct_h7 X l d hd0 rU drU hrU erU rc hrc) q_N
def fX5_readProduct (rU : Int32 → q_W → Option (Unit × q_W)) (a1 : Int32) (w : q_W) : Option (Unit × q_W) :=
  q_b (rU a1 w) fun r1 w2 =>
  fX5_readProduct_l7 rU a1 0 w2
set_option maxHeartbeats 4000000 in
set_option maxRecDepth 100000 in
theorem kX5_readProduct (X : q_X) (l : Launch) (d : Nat) (hd0 : 2 ≤ d) (rU : Int32 → q_W → Option (Unit × q_W)) (drU : Nat) (hrU : ∀ a0 w, q_Ct X S_C l mX5_readUnit drU q_tV [.ref 23, .int a0] w (rU a0 w)) (erU : drU + 1 ≤ d) (a1 : Int32) (w : q_W) : q_Ct X S_C l mX5_readProduct d q_tV [.ref 23, .int a1] w (fX5_readProduct rU a1 w) := by
  refine q_intro (lv := [(0, .ref 23), (1, .int a1)]) (by decide +kernel) rfl (Nat.le_of_ble_eq_true rfl) rfl ?_
  refine q_aload_n 0 eX5_readProduct_0 rfl rfl ?_
  refine q_iload_n 1 eX5_readProduct_1 rfl rfl ?_
  refine q_callVV (As := [.int a1]) (st := []) eX5_readProduct_2 cv_5_176 (hrU a1 w) tC_23 rfl (by decide) rfl rfl (Nat.le_of_ble_eq_true rfl) erU (fun r1 w2 => ?_)
  refine q_iconst eX5_readProduct_5 kiconst_0 ?_
  refine q_istore_n (lv' := [(2, .int 0), (0, .ref 23), (1, .int a1)]) eX5_readProduct_6 rfl (by decide) rfl ?_
  exact q_sub [1, 2, 0] rfl (jX5_readProduct_l7 X l d hd0 rU drU hrU erU a1 0 w2)
def fX5_readSum_n47 (rP : Int32 → q_W → Option (Unit × q_W)) (rec7 : Int32 → Int32 → q_W → Option (Unit × q_W)) (x1 : Int32) (x2 : Int32) (s0 : Int32) (w : q_W) : Option (Unit × q_W) :=
  q_b (fX5_take (w.1 23 5) w) fun r1 w2 =>
  q_b (rP x1 w2) fun r3 w4 =>
  if cC (w4.2.1 23 11) = 4 then
  q_b (fX4_add (w4.2.1 23 11) s0 w4) fun r6 w7 =>
  q_lt (x2 + 1) fun y8 =>
  rec7 x1 y8 w7
  else none
set_option maxHeartbeats 4000000 in
set_option maxRecDepth 100000 in
theorem jX5_readSum_n47 (X : q_X) (l : Launch) (d : Nat) (hd0 : 2 ≤ d) (rP : Int32 → q_W → Option (Unit × q_W)) (drP : Nat) (hrP : ∀ a0 w, q_Ct X S_C l mX5_readProduct drP q_tV [.ref 23, .int a0] w (rP a0 w)) (erP : drP + 1 ≤ d) (rec7 : Int32 → Int32 → q_W → Option (Unit × q_W)) (hr7 : ∀ x1 x2 w, q_J X S_C l mX5_readSum d q_tV 7 [(0, .ref 23), (1, .int x1), (2, .int x2)] [] w (rec7 x1 x2 w)) (x1 : Int32) (x2 : Int32) (s0 : Int32) (w : q_W) : q_J X S_C l mX5_readSum d q_tV 47 [(0, .ref 23), (1, .int x1), (2, .int x2)] [.int s0] w (fX5_readSum_n47 rP rec7 x1 x2 s0 w) := by
  refine q_istore_n (lv' := [(3, .int s0), (0, .ref 23), (1, .int x1), (2, .int x2)]) eX5_readSum_47 rfl (by decide) rfl ?_
  refine q_aload_n 1 eX5_readSum_48 rfl rfl ?_
  refine q_aload_n 1 eX5_readSum_49 rfl rfl ?_
  refine q_getI eX5_readSum_50 fl_5_54 tC_23 rfl ?_
  refine q_callVV (As := [.int (w.1 23 5)]) (st := []) eX5_readSum_53 cv_5_80 (kX5_take X l (w.1 23 5) w) tC_23 rfl (by decide) rfl rfl (Nat.le_of_ble_eq_true rfl) (by omega) (fun r1 w2 => ?_)
  refine q_aload_n 1 eX5_readSum_56 rfl rfl ?_
  refine q_iload_n 2 eX5_readSum_57 rfl rfl ?_
  refine q_callVV (As := [.int x1]) (st := []) eX5_readSum_58 cv_5_173 (hrP x1 w2) tC_23 rfl (by decide) rfl rfl (Nat.le_of_ble_eq_true rfl) erP (fun r3 w4 => ?_)
  refine q_aload_n 1 eX5_readSum_61 rfl rfl ?_
  refine q_getR eX5_readSum_62 fl_5_29 tC_23 rfl ?_
  refine q_ck (fun g5 => ?_)
  refine q_iload_n 0 eX5_readSum_65 rfl rfl ?_
  refine q_callVV (As := [.int s0]) (st := []) eX5_readSum_66 cv_5_103 (kX4_add X l (w4.2.1 23 11) s0 w4) g5 rfl (by decide) rfl rfl (Nat.le_of_ble_eq_true rfl) (by omega) (fun r6 w7 => ?_)
  refine q_ltE (fun y8 hy8 => ?_)
  refine q_iinc (v := y8) (lv' := [(2, .int y8), (3, .int s0), (0, .ref 23), (1, .int x1)]) 3 eX5_readSum_69 rfl hy8 (by decide) rfl ?_
  refine q_goto (tgt := 7) eX5_readSum_72 (by decide) ?_
  exact q_sub [2, 3, 0] rfl (hr7 x1 y8 w7)
def fX5_readSum_n32 (rP : Int32 → q_W → Option (Unit × q_W)) (rec7 : Int32 → Int32 → q_W → Option (Unit × q_W)) (x1 : Int32) (x2 : Int32) (w : q_W) : Option (Unit × q_W) :=
  if (w.1 23 5) = 43 then
    fX5_readSum_n47 rP rec7 x1 x2 5 w
  else
    fX5_readSum_n47 rP rec7 x1 x2 6 w
set_option maxHeartbeats 4000000 in
set_option maxRecDepth 100000 in
theorem jX5_readSum_n32 (X : q_X) (l : Launch) (d : Nat) (hd0 : 2 ≤ d) (rP : Int32 → q_W → Option (Unit × q_W)) (drP : Nat) (hrP : ∀ a0 w, q_Ct X S_C l mX5_readProduct drP q_tV [.ref 23, .int a0] w (rP a0 w)) (erP : drP + 1 ≤ d) (rec7 : Int32 → Int32 → q_W → Option (Unit × q_W)) (hr7 : ∀ x1 x2 w, q_J X S_C l mX5_readSum d q_tV 7 [(0, .ref 23), (1, .int x1), (2, .int x2)] [] w (rec7 x1 x2 w)) (x1 : Int32) (x2 : Int32) (w : q_W) : q_J X S_C l mX5_readSum d q_tV 32 [(0, .ref 23), (1, .int x1), (2, .int x2)] [] w (fX5_readSum_n32 rP rec7 x1 x2 w) := by
  refine q_aload_n 0 eX5_readSum_32 rfl rfl ?_
  refine q_getI eX5_readSum_33 fl_5_54 tC_23 rfl ?_
  refine q_bipush eX5_readSum_36 kbipush_43 ?_
  refine q_icmp_ne (tgt := 45) eX5_readSum_38 (by decide) (fun _ => ?_) (fun _ => ?_)
  · refine q_iconst eX5_readSum_41 kiconst_5 ?_
    refine q_goto (tgt := 47) eX5_readSum_42 (by decide) ?_
    exact q_sub [0, 1, 2] rfl (jX5_readSum_n47 X l d hd0 rP drP hrP erP rec7 hr7 x1 x2 5 w)
  · refine q_bipush eX5_readSum_45 kbipush_6 ?_
    exact q_sub [0, 1, 2] rfl (jX5_readSum_n47 X l d hd0 rP drP hrP erP rec7 hr7 x1 x2 6 w)
def fX5_readSum_h7 (rP : Int32 → q_W → Option (Unit × q_W)) (rec7 : Int32 → Int32 → q_W → Option (Unit × q_W)) (x1 : Int32) (x2 : Int32) (w : q_W) : Option (Unit × q_W) :=
  if 501 ≤ x2 then
    some ((), w)
  else
    if (w.1 23 5) = 43 then
      fX5_readSum_n32 rP rec7 x1 x2 w
    else
      if (w.1 23 5) = 45 then
        fX5_readSum_n32 rP rec7 x1 x2 w
      else
        some ((), w)
def fX5_readSum_l7 (rP : Int32 → q_W → Option (Unit × q_W)) : Int32 → Int32 → q_W → Option (Unit × q_W) := q_it q_N (fX5_readSum_h7 rP) (fun _ _ _ => none)
set_option maxHeartbeats 4000000 in
set_option maxRecDepth 100000 in
theorem jX5_readSum_h7 (X : q_X) (l : Launch) (d : Nat) (hd0 : 2 ≤ d) (rP : Int32 → q_W → Option (Unit × q_W)) (drP : Nat) (hrP : ∀ a0 w, q_Ct X S_C l mX5_readProduct drP q_tV [.ref 23, .int a0] w (rP a0 w)) (erP : drP + 1 ≤ d) (rec7 : Int32 → Int32 → q_W → Option (Unit × q_W)) (hr7 : ∀ x1 x2 w, q_J X S_C l mX5_readSum d q_tV 7 [(0, .ref 23), (1, .int x1), (2, .int x2)] [] w (rec7 x1 x2 w)) : ∀ x1 x2 w, q_J X S_C l mX5_readSum d q_tV 7 [(0, .ref 23), (1, .int x1), (2, .int x2)] [] w (fX5_readSum_h7 rP rec7 x1 x2 w) := by
  intro x1 x2 w
  refine q_iload_n 2 eX5_readSum_7 rfl rfl ?_
  refine q_sipush eX5_readSum_8 ksipush_501 ?_
  refine q_icmp_ge (tgt := 75) eX5_readSum_11 (by decide) (fun _ => ?_) (fun _ => ?_)
  · exact q_return eX5_readSum_75 rfl
  · refine q_aload_n 0 eX5_readSum_14 rfl rfl ?_
    refine q_getI eX5_readSum_15 fl_5_54 tC_23 rfl ?_
    refine q_bipush eX5_readSum_18 kbipush_43 ?_
    refine q_icmp_eq (tgt := 32) eX5_readSum_20 (by decide) (fun _ => ?_) (fun _ => ?_)
    · exact q_sub [0, 1, 2] rfl (jX5_readSum_n32 X l d hd0 rP drP hrP erP rec7 hr7 x1 x2 w)
    · refine q_aload_n 0 eX5_readSum_23 rfl rfl ?_
      refine q_getI eX5_readSum_24 fl_5_54 tC_23 rfl ?_
      refine q_bipush eX5_readSum_27 kbipush_45 ?_
      refine q_icmp_ne (tgt := 75) eX5_readSum_29 (by decide) (fun _ => ?_) (fun _ => ?_)
      · exact q_sub [0, 1, 2] rfl (jX5_readSum_n32 X l d hd0 rP drP hrP erP rec7 hr7 x1 x2 w)
      · exact q_return eX5_readSum_75 rfl
set_option maxHeartbeats 4000000 in
set_option maxRecDepth 100000 in
theorem jX5_readSum_l7 (X : q_X) (l : Launch) (d : Nat) (hd0 : 2 ≤ d) (rP : Int32 → q_W → Option (Unit × q_W)) (drP : Nat) (hrP : ∀ a0 w, q_Ct X S_C l mX5_readProduct drP q_tV [.ref 23, .int a0] w (rP a0 w)) (erP : drP + 1 ≤ d) : ∀ x1 x2 w, q_J X S_C l mX5_readSum d q_tV 7 [(0, .ref 23), (1, .int x1), (2, .int x2)] [] w (fX5_readSum_l7 rP x1 x2 w) := by
  exact q_it_ind (fun rc => ∀ x1 x2 w, q_J X S_C l mX5_readSum d q_tV 7 [(0, .ref 23), (1, .int x1), (2, .int x2)] [] w (rc x1 x2 w)) _ _ (fun _ _ _ => q_none) (fun rc hrc => jX5_readSum_h7 X l d hd0 rP drP hrP erP rc hrc) q_N
def fX5_readSum (rP : Int32 → q_W → Option (Unit × q_W)) (a1 : Int32) (w : q_W) : Option (Unit × q_W) :=
  q_b (rP a1 w) fun r1 w2 =>
  fX5_readSum_l7 rP a1 0 w2
set_option maxHeartbeats 4000000 in
set_option maxRecDepth 100000 in
theorem kX5_readSum (X : q_X) (l : Launch) (d : Nat) (hd0 : 2 ≤ d) (rP : Int32 → q_W → Option (Unit × q_W)) (drP : Nat) (hrP : ∀ a0 w, q_Ct X S_C l mX5_readProduct drP q_tV [.ref 23, .int a0] w (rP a0 w)) (erP : drP + 1 ≤ d) (a1 : Int32) (w : q_W) : q_Ct X S_C l mX5_readSum d q_tV [.ref 23, .int a1] w (fX5_readSum rP a1 w) := by
  refine q_intro (lv := [(0, .ref 23), (1, .int a1)]) (by decide +kernel) rfl (Nat.le_of_ble_eq_true rfl) rfl ?_
  refine q_aload_n 0 eX5_readSum_0 rfl rfl ?_
  refine q_iload_n 1 eX5_readSum_1 rfl rfl ?_
  refine q_callVV (As := [.int a1]) (st := []) eX5_readSum_2 cv_5_173 (hrP a1 w) tC_23 rfl (by decide) rfl rfl (Nat.le_of_ble_eq_true rfl) erP (fun r1 w2 => ?_)
  refine q_iconst eX5_readSum_5 kiconst_0 ?_
  refine q_istore_n (lv' := [(2, .int 0), (0, .ref 23), (1, .int a1)]) eX5_readSum_6 rfl (by decide) rfl ?_
  exact q_sub [1, 2, 0] rfl (jX5_readSum_l7 X l d hd0 rP drP hrP erP a1 0 w2)
def q_unit : Nat → Int32 → q_W → Option (Unit × q_W)
  | 0 => fun _ _ => none
  | n + 1 => fX5_readUnit (q_unit n) (fX5_readSum (fX5_readProduct (q_unit n)))
def q_prodN (n : Nat) : Int32 → q_W → Option (Unit × q_W) := fX5_readProduct (q_unit n)
def q_sumN (n : Nat) : Int32 → q_W → Option (Unit × q_W) := fX5_readSum (q_prodN n)
def q_sum : Int32 → q_W → Option (Unit × q_W) := q_sumN 8
theorem k_prodN (X : q_X) (l : Launch) (n : Nat) (hU : ∀ a0 w, q_Ct X S_C l mX5_readUnit (2 + 3 * n) q_tV [.ref 23, .int a0] w (q_unit n a0 w)) (a : Int32) (w : q_W) : q_Ct X S_C l mX5_readProduct (2 + 3 * n + 1) q_tV [.ref 23, .int a] w (q_prodN n a w) := kX5_readProduct X l (2 + 3 * n + 1) (by omega) (q_unit n) (2 + 3 * n) hU (by omega) a w
theorem k_sumN (X : q_X) (l : Launch) (n : Nat) (hU : ∀ a0 w, q_Ct X S_C l mX5_readUnit (2 + 3 * n) q_tV [.ref 23, .int a0] w (q_unit n a0 w)) (a : Int32) (w : q_W) : q_Ct X S_C l mX5_readSum (2 + 3 * n + 2) q_tV [.ref 23, .int a] w (q_sumN n a w) := kX5_readSum X l (2 + 3 * n + 2) (by omega) (q_prodN n) (2 + 3 * n + 1) (k_prodN X l n hU) (by omega) a w
theorem k_unit (X : q_X) (l : Launch) : ∀ (n : Nat) (a0 : Int32) (w : q_W), q_Ct X S_C l mX5_readUnit (2 + 3 * n) q_tV [.ref 23, .int a0] w (q_unit n a0 w)
  | 0 => fun a0 w r w' h => by cases h
  | n + 1 => fun a0 w => kX5_readUnit X l (2 + 3 * (n + 1)) (by omega) (q_unit n) (2 + 3 * n) (k_unit X l n) (by omega) (q_sumN n) (2 + 3 * n + 2) (k_sumN X l n (k_unit X l n)) (by omega) a0 w
theorem k_sum (X : q_X) (l : Launch) (a : Int32) (w : q_W) : q_Ct X S_C l mX5_readSum 28 q_tV [.ref 23, .int a] w (q_sum a w) := k_sumN X l 8 (k_unit X l 8) a w
def fX5_relationOf (a0 : Int32) (w : q_W) : Option (Int32 × q_W) :=
  if a0 = 60 then
    some (12, w)
  else if a0 = 289 then
    some (11, w)
  else if a0 = 316 then
    some (13, w)
  else if a0 = 317 then
    some (10, w)
  else some ((-1), w)
set_option maxHeartbeats 4000000 in
set_option maxRecDepth 100000 in
theorem kX5_relationOf (X : q_X) (l : Launch) (a0 : Int32) (w : q_W) : q_Ct X S_C l mX5_relationOf 0 q_tI [.int a0] w (fX5_relationOf a0 w) := by
  refine q_intro (lv := [(0, .int a0)]) (by decide +kernel) rfl (Nat.le_of_ble_eq_true rfl) rfl ?_
  refine q_iload_n 0 eX5_relationOf_0 rfl rfl ?_
  refine q_ite (fun c1 => ?_) (fun c1 => ?_)
  · refine q_lookup (off := 49) (tgt := 50) eX5_relationOf_1 (by decide) (by rw [c1]; decide) (by decide) ?_
    refine q_bipush eX5_relationOf_50 kbipush_12 ?_
    exact q_ireturn eX5_relationOf_52 rfl
  refine q_ite (fun c2 => ?_) (fun c2 => ?_)
  · refine q_lookup (off := 46) (tgt := 47) eX5_relationOf_1 (by decide) (by rw [c2]; decide) (by decide) ?_
    refine q_bipush eX5_relationOf_47 kbipush_11 ?_
    exact q_ireturn eX5_relationOf_49 rfl
  refine q_ite (fun c3 => ?_) (fun c3 => ?_)
  · refine q_lookup (off := 52) (tgt := 53) eX5_relationOf_1 (by decide) (by rw [c3]; decide) (by decide) ?_
    refine q_bipush eX5_relationOf_53 kbipush_13 ?_
    exact q_ireturn eX5_relationOf_55 rfl
  refine q_ite (fun c4 => ?_) (fun c4 => ?_)
  · refine q_lookup (off := 43) (tgt := 44) eX5_relationOf_1 (by decide) (by rw [c4]; decide) (by decide) ?_
    refine q_bipush eX5_relationOf_44 kbipush_10 ?_
    exact q_ireturn eX5_relationOf_46 rfl
  refine q_lookup (off := 55) (tgt := 56) eX5_relationOf_1 (by decide) (q_off1 c1 rfl (q_off1 c2 rfl (q_off1 c3 rfl (q_off1 c4 rfl q_off0)))) (by decide) ?_
  refine q_iconst eX5_relationOf_56 kiconst_m1 ?_
  exact q_ireturn eX5_relationOf_57 rfl
def fX5_readCondition_n170 (rec9 : Int32 → Int32 → Int32 → Int32 → q_W → Option (Unit × q_W)) (x1 : Int32) (x2 : Int32) (x3 : Int32) (x4 : Int32) (w : q_W) : Option (Unit × q_W) :=
  q_lt (x4 + 1) fun y1 =>
  rec9 x1 x2 x3 y1 w
set_option maxHeartbeats 4000000 in
set_option maxRecDepth 100000 in
theorem jX5_readCondition_n170 (X : q_X) (l : Launch) (rec9 : Int32 → Int32 → Int32 → Int32 → q_W → Option (Unit × q_W)) (hr9 : ∀ x1 x2 x3 x4 w, q_J X S_C l mX5_readCondition 29 q_tV 9 [(0, .ref 23), (1, .int x1), (2, .int x2), (3, .int x3), (4, .int x4)] [] w (rec9 x1 x2 x3 x4 w)) (x1 : Int32) (x2 : Int32) (x3 : Int32) (x4 : Int32) (w : q_W) : q_J X S_C l mX5_readCondition 29 q_tV 170 [(0, .ref 23), (1, .int x1), (2, .int x2), (3, .int x3), (4, .int x4)] [] w (fX5_readCondition_n170 rec9 x1 x2 x3 x4 w) := by
  refine q_ltE (fun y1 hy1 => ?_)
  refine q_iinc (v := y1) (lv' := [(4, .int y1), (0, .ref 23), (1, .int x1), (2, .int x2), (3, .int x3)]) 4 eX5_readCondition_170 rfl hy1 (by decide) rfl ?_
  refine q_goto (tgt := 9) eX5_readCondition_173 (by decide) ?_
  exact q_sub [1, 2, 3, 4, 0] rfl (hr9 x1 x2 x3 y1 w)
def fX5_readCondition_n139 (rec9 : Int32 → Int32 → Int32 → Int32 → q_W → Option (Unit × q_W)) (x1 : Int32) (x2 : Int32) (x4 : Int32) (s0 : Int32) (w : q_W) : Option (Unit × q_W) :=
  if s0 = 0 then
    fX5_readCondition_n170 rec9 x1 x2 s0 x4 w
  else
    q_b (fX5_take 16 w) fun r1 w2 =>
    if cC (w2.2.1 23 11) = 4 then
    q_b (fX4_add_ (w2.2.1 23 11) 15 0 w2) fun r4 w5 =>
    if cC (w5.2.1 23 11) = 4 then
    q_b (fX4_here (w5.2.1 23 11) w5) fun r7 w8 =>
    q_lt (r7 - 1) fun y9 =>
    fX5_readCondition_n170 rec9 x1 y9 s0 x4 w8
    else none
    else none
set_option maxHeartbeats 4000000 in
set_option maxRecDepth 100000 in
theorem jX5_readCondition_n139 (X : q_X) (l : Launch) (rec9 : Int32 → Int32 → Int32 → Int32 → q_W → Option (Unit × q_W)) (hr9 : ∀ x1 x2 x3 x4 w, q_J X S_C l mX5_readCondition 29 q_tV 9 [(0, .ref 23), (1, .int x1), (2, .int x2), (3, .int x3), (4, .int x4)] [] w (rec9 x1 x2 x3 x4 w)) (x1 : Int32) (x2 : Int32) (x4 : Int32) (s0 : Int32) (w : q_W) : q_J X S_C l mX5_readCondition 29 q_tV 139 [(0, .ref 23), (1, .int x1), (2, .int x2), (4, .int x4)] [.int s0] w (fX5_readCondition_n139 rec9 x1 x2 x4 s0 w) := by
  refine q_istore_n (lv' := [(3, .int s0), (0, .ref 23), (1, .int x1), (2, .int x2), (4, .int x4)]) eX5_readCondition_139 rfl (by decide) rfl ?_
  refine q_iload_n 0 eX5_readCondition_140 rfl rfl ?_
  refine q_if_eq (tgt := 170) eX5_readCondition_141 (by decide) (fun _ => ?_) (fun _ => ?_)
  · exact q_sub [1, 2, 3, 0, 4] rfl (jX5_readCondition_n170 X l rec9 hr9 x1 x2 s0 x4 w)
  · refine q_aload_n 1 eX5_readCondition_144 rfl rfl ?_
    refine q_bipush eX5_readCondition_145 kbipush_16 ?_
    refine q_callVV (As := [.int 16]) (st := []) eX5_readCondition_147 cv_5_80 (kX5_take X l 16 w) tC_23 rfl (by decide) rfl rfl (Nat.le_of_ble_eq_true rfl) (by decide) (fun r1 w2 => ?_)
    refine q_aload_n 1 eX5_readCondition_150 rfl rfl ?_
    refine q_getR eX5_readCondition_151 fl_5_29 tC_23 rfl ?_
    refine q_ck (fun g3 => ?_)
    refine q_bipush eX5_readCondition_154 kbipush_15 ?_
    refine q_iconst eX5_readCondition_156 kiconst_0 ?_
    refine q_callVV (As := [.int 15, .int 0]) (st := []) eX5_readCondition_157 cv_5_133 (kX4_add_ X l (w2.2.1 23 11) 15 0 w2) g3 rfl (by decide) rfl rfl (Nat.le_of_ble_eq_true rfl) (by decide) (fun r4 w5 => ?_)
    refine q_aload_n 1 eX5_readCondition_160 rfl rfl ?_
    refine q_getR eX5_readCondition_161 fl_5_29 tC_23 rfl ?_
    refine q_ck (fun g6 => ?_)
    refine q_callVI (As := []) (st := []) eX5_readCondition_164 cv_5_158 (kX4_here X l (w5.2.1 23 11) w5) g6 rfl (by decide) rfl rfl (Nat.le_of_ble_eq_true rfl) (by decide) (fun r7 w8 => ?_)
    refine q_iconst eX5_readCondition_167 kiconst_1 ?_
    refine q_isub eX5_readCondition_168 ?_
    refine q_ltI (fun y9 => ?_)
    refine q_istore_n (lv' := [(2, .int y9), (3, .int s0), (0, .ref 23), (1, .int x1), (4, .int x4)]) eX5_readCondition_169 rfl (by decide) rfl ?_
    exact q_sub [2, 3, 0, 1, 4] rfl (jX5_readCondition_n170 X l rec9 hr9 x1 y9 s0 x4 w8)
def fX5_readCondition_h9 (rec9 : Int32 → Int32 → Int32 → Int32 → q_W → Option (Unit × q_W)) (x1 : Int32) (x2 : Int32) (x3 : Int32) (x4 : Int32) (w : q_W) : Option (Unit × q_W) :=
  if 501 ≤ x4 then
    some ((), w)
  else
    if x3 = 0 then
      some ((), w)
    else
      q_b (q_sum 0 w) fun r1 w2 =>
      q_b (fX5_relationOf (w2.1 23 5) w2) fun r3 w4 =>
      if r3 = (-1) then
        q_b (fX5_fail 1 w4) fun r5 w6 =>
        some ((), w6)
      else
        q_b (fX5_take (w4.1 23 5) w4) fun r7 w8 =>
        q_b (q_sum 0 w8) fun r9 w10 =>
        if cC (w10.2.1 23 11) = 4 then
        q_b (fX4_add (w10.2.1 23 11) r3 w10) fun r12 w13 =>
        if cC (w13.2.1 23 11) = 4 then
        q_b (fX4_aimHere (w13.2.1 23 11) x1 w13) fun r15 w16 =>
        if (w16.1 23 5) = 17 then
          q_b (fX5_take 17 w16) fun r17 w18 =>
          if cC (w18.2.1 23 11) = 4 then
          q_b (fX4_add_ (w18.2.1 23 11) 14 0 w18) fun r20 w21 =>
          if cC (w21.2.1 23 11) = 4 then
          q_b (fX4_here (w21.2.1 23 11) w21) fun r23 w24 =>
          q_lt (r23 - 1) fun y25 =>
          fX5_readCondition_n170 rec9 y25 x2 x3 x4 w24
          else none
          else none
        else
          if cC (w16.2.1 23 11) = 4 then
          q_b (fX4_aimHere (w16.2.1 23 11) x2 w16) fun r27 w28 =>
          if (w28.1 23 5) = 16 then
            fX5_readCondition_n139 rec9 (-1) x2 x4 1 w28
          else
            fX5_readCondition_n139 rec9 (-1) x2 x4 0 w28
          else none
        else none
        else none
def fX5_readCondition_l9 : Int32 → Int32 → Int32 → Int32 → q_W → Option (Unit × q_W) := q_it q_N (fX5_readCondition_h9) (fun _ _ _ _ _ => none)
set_option maxHeartbeats 4000000 in
set_option maxRecDepth 100000 in
theorem jX5_readCondition_h9 (X : q_X) (l : Launch) (rec9 : Int32 → Int32 → Int32 → Int32 → q_W → Option (Unit × q_W)) (hr9 : ∀ x1 x2 x3 x4 w, q_J X S_C l mX5_readCondition 29 q_tV 9 [(0, .ref 23), (1, .int x1), (2, .int x2), (3, .int x3), (4, .int x4)] [] w (rec9 x1 x2 x3 x4 w)) : ∀ x1 x2 x3 x4 w, q_J X S_C l mX5_readCondition 29 q_tV 9 [(0, .ref 23), (1, .int x1), (2, .int x2), (3, .int x3), (4, .int x4)] [] w (fX5_readCondition_h9 rec9 x1 x2 x3 x4 w) := by
  intro x1 x2 x3 x4 w
  refine q_iload 4 eX5_readCondition_9 rfl ?_
  refine q_sipush eX5_readCondition_11 ksipush_501 ?_
  refine q_icmp_ge (tgt := 176) eX5_readCondition_14 (by decide) (fun _ => ?_) (fun _ => ?_)
  · exact q_return eX5_readCondition_176 rfl
  · refine q_iload_n 3 eX5_readCondition_17 rfl rfl ?_
    refine q_if_eq (tgt := 176) eX5_readCondition_18 (by decide) (fun _ => ?_) (fun _ => ?_)
    · exact q_return eX5_readCondition_176 rfl
    · refine q_aload_n 0 eX5_readCondition_21 rfl rfl ?_
      refine q_iconst eX5_readCondition_22 kiconst_0 ?_
      refine q_callVV (As := [.int 0]) (st := []) eX5_readCondition_23 cv_5_152 (k_sum X l 0 w) tC_23 rfl (by decide) rfl rfl (Nat.le_of_ble_eq_true rfl) (by decide) (fun r1 w2 => ?_)
      refine q_aload_n 0 eX5_readCondition_26 rfl rfl ?_
      refine q_getI eX5_readCondition_27 fl_5_54 tC_23 rfl ?_
      refine q_callSI (As := [.int (w2.1 23 5)]) (st := []) eX5_readCondition_30 cv_5_170 (kX5_relationOf X l (w2.1 23 5) w2) rfl rfl (Nat.le_of_ble_eq_true rfl) (by decide) (fun r3 w4 => ?_)
      refine q_istore (lv' := [(5, .int r3), (0, .ref 23), (1, .int x1), (2, .int x2), (3, .int x3), (4, .int x4)]) eX5_readCondition_33 (by decide) rfl ?_
      refine q_iload 0 eX5_readCondition_35 rfl ?_
      refine q_iconst eX5_readCondition_37 kiconst_m1 ?_
      refine q_icmp_ne (tgt := 47) eX5_readCondition_38 (by decide) (fun _ => ?_) (fun _ => ?_)
      · refine q_aload_n 1 eX5_readCondition_41 rfl rfl ?_
        refine q_iconst eX5_readCondition_42 kiconst_1 ?_
        refine q_callVV (As := [.int 1]) (st := []) eX5_readCondition_43 cv_5_66 (kX5_fail X l 1 w4) tC_23 rfl (by decide) rfl rfl (Nat.le_of_ble_eq_true rfl) (by decide) (fun r5 w6 => ?_)
        exact q_return eX5_readCondition_46 rfl
      · refine q_aload_n 1 eX5_readCondition_47 rfl rfl ?_
        refine q_aload_n 1 eX5_readCondition_48 rfl rfl ?_
        refine q_getI eX5_readCondition_49 fl_5_54 tC_23 rfl ?_
        refine q_callVV (As := [.int (w4.1 23 5)]) (st := []) eX5_readCondition_52 cv_5_80 (kX5_take X l (w4.1 23 5) w4) tC_23 rfl (by decide) rfl rfl (Nat.le_of_ble_eq_true rfl) (by decide) (fun r7 w8 => ?_)
        refine q_aload_n 1 eX5_readCondition_55 rfl rfl ?_
        refine q_iconst eX5_readCondition_56 kiconst_0 ?_
        refine q_callVV (As := [.int 0]) (st := []) eX5_readCondition_57 cv_5_152 (k_sum X l 0 w8) tC_23 rfl (by decide) rfl rfl (Nat.le_of_ble_eq_true rfl) (by decide) (fun r9 w10 => ?_)
        refine q_aload_n 1 eX5_readCondition_60 rfl rfl ?_
        refine q_getR eX5_readCondition_61 fl_5_29 tC_23 rfl ?_
        refine q_ck (fun g11 => ?_)
        refine q_iload 0 eX5_readCondition_64 rfl ?_
        refine q_callVV (As := [.int r3]) (st := []) eX5_readCondition_66 cv_5_103 (kX4_add X l (w10.2.1 23 11) r3 w10) g11 rfl (by decide) rfl rfl (Nat.le_of_ble_eq_true rfl) (by decide) (fun r12 w13 => ?_)
        refine q_aload_n 1 eX5_readCondition_69 rfl rfl ?_
        refine q_getR eX5_readCondition_70 fl_5_29 tC_23 rfl ?_
        refine q_ck (fun g14 => ?_)
        refine q_iload_n 2 eX5_readCondition_73 rfl rfl ?_
        refine q_callVV (As := [.int x1]) (st := []) eX5_readCondition_74 cv_5_161 (kX4_aimHere X l (w13.2.1 23 11) x1 w13) g14 rfl (by decide) rfl rfl (Nat.le_of_ble_eq_true rfl) (by decide) (fun r15 w16 => ?_)
        refine q_iconst eX5_readCondition_77 kiconst_m1 ?_
        refine q_istore_n (lv' := [(1, .int (-1)), (5, .int r3), (0, .ref 23), (2, .int x2), (3, .int x3), (4, .int x4)]) eX5_readCondition_78 rfl (by decide) rfl ?_
        refine q_aload_n 2 eX5_readCondition_79 rfl rfl ?_
        refine q_getI eX5_readCondition_80 fl_5_54 tC_23 rfl ?_
        refine q_bipush eX5_readCondition_83 kbipush_17 ?_
        refine q_icmp_ne (tgt := 117) eX5_readCondition_85 (by decide) (fun _ => ?_) (fun _ => ?_)
        · refine q_aload_n 2 eX5_readCondition_88 rfl rfl ?_
          refine q_bipush eX5_readCondition_89 kbipush_17 ?_
          refine q_callVV (As := [.int 17]) (st := []) eX5_readCondition_91 cv_5_80 (kX5_take X l 17 w16) tC_23 rfl (by decide) rfl rfl (Nat.le_of_ble_eq_true rfl) (by decide) (fun r17 w18 => ?_)
          refine q_aload_n 2 eX5_readCondition_94 rfl rfl ?_
          refine q_getR eX5_readCondition_95 fl_5_29 tC_23 rfl ?_
          refine q_ck (fun g19 => ?_)
          refine q_bipush eX5_readCondition_98 kbipush_14 ?_
          refine q_iconst eX5_readCondition_100 kiconst_0 ?_
          refine q_callVV (As := [.int 14, .int 0]) (st := []) eX5_readCondition_101 cv_5_133 (kX4_add_ X l (w18.2.1 23 11) 14 0 w18) g19 rfl (by decide) rfl rfl (Nat.le_of_ble_eq_true rfl) (by decide) (fun r20 w21 => ?_)
          refine q_aload_n 2 eX5_readCondition_104 rfl rfl ?_
          refine q_getR eX5_readCondition_105 fl_5_29 tC_23 rfl ?_
          refine q_ck (fun g22 => ?_)
          refine q_callVI (As := []) (st := []) eX5_readCondition_108 cv_5_158 (kX4_here X l (w21.2.1 23 11) w21) g22 rfl (by decide) rfl rfl (Nat.le_of_ble_eq_true rfl) (by decide) (fun r23 w24 => ?_)
          refine q_iconst eX5_readCondition_111 kiconst_1 ?_
          refine q_isub eX5_readCondition_112 ?_
          refine q_ltI (fun y25 => ?_)
          refine q_istore_n (lv' := [(1, .int y25), (5, .int r3), (0, .ref 23), (2, .int x2), (3, .int x3), (4, .int x4)]) eX5_readCondition_113 rfl (by decide) rfl ?_
          refine q_goto (tgt := 170) eX5_readCondition_114 (by decide) ?_
          exact q_sub [2, 0, 3, 4, 5] rfl (jX5_readCondition_n170 X l rec9 hr9 y25 x2 x3 x4 w24)
        · refine q_aload_n 2 eX5_readCondition_117 rfl rfl ?_
          refine q_getR eX5_readCondition_118 fl_5_29 tC_23 rfl ?_
          refine q_ck (fun g26 => ?_)
          refine q_iload_n 3 eX5_readCondition_121 rfl rfl ?_
          refine q_callVV (As := [.int x2]) (st := []) eX5_readCondition_122 cv_5_161 (kX4_aimHere X l (w16.2.1 23 11) x2 w16) g26 rfl (by decide) rfl rfl (Nat.le_of_ble_eq_true rfl) (by decide) (fun r27 w28 => ?_)
          refine q_aload_n 2 eX5_readCondition_125 rfl rfl ?_
          refine q_getI eX5_readCondition_126 fl_5_54 tC_23 rfl ?_
          refine q_bipush eX5_readCondition_129 kbipush_16 ?_
          refine q_icmp_ne (tgt := 138) eX5_readCondition_131 (by decide) (fun _ => ?_) (fun _ => ?_)
          · refine q_iconst eX5_readCondition_134 kiconst_1 ?_
            refine q_goto (tgt := 139) eX5_readCondition_135 (by decide) ?_
            exact q_sub [2, 0, 3, 5] rfl (jX5_readCondition_n139 X l rec9 hr9 (-1) x2 x4 1 w28)
          · refine q_iconst eX5_readCondition_138 kiconst_0 ?_
            exact q_sub [2, 0, 3, 5] rfl (jX5_readCondition_n139 X l rec9 hr9 (-1) x2 x4 0 w28)
set_option maxHeartbeats 4000000 in
set_option maxRecDepth 100000 in
theorem jX5_readCondition_l9 (X : q_X) (l : Launch) : ∀ x1 x2 x3 x4 w, q_J X S_C l mX5_readCondition 29 q_tV 9 [(0, .ref 23), (1, .int x1), (2, .int x2), (3, .int x3), (4, .int x4)] [] w (fX5_readCondition_l9 x1 x2 x3 x4 w) := by
  exact q_it_ind (fun rc => ∀ x1 x2 x3 x4 w, q_J X S_C l mX5_readCondition 29 q_tV 9 [(0, .ref 23), (1, .int x1), (2, .int x2), (3, .int x3), (4, .int x4)] [] w (rc x1 x2 x3 x4 w)) _ _ (fun _ _ _ _ _ => q_none) (fun rc hrc => jX5_readCondition_h9 X l rc hrc) q_N
def fX5_readCondition (w : q_W) : Option (Unit × q_W) :=
  fX5_readCondition_l9 (-1) (-1) 1 0 w
set_option maxHeartbeats 4000000 in
set_option maxRecDepth 100000 in
theorem kX5_readCondition (X : q_X) (l : Launch) (w : q_W) : q_Ct X S_C l mX5_readCondition 29 q_tV [.ref 23] w (fX5_readCondition w) := by
  refine q_intro (lv := [(0, .ref 23)]) (by decide +kernel) rfl (Nat.le_of_ble_eq_true rfl) rfl ?_
  refine q_iconst eX5_readCondition_0 kiconst_m1 ?_
  refine q_istore_n (lv' := [(1, .int (-1)), (0, .ref 23)]) eX5_readCondition_1 rfl (by decide) rfl ?_
  refine q_iconst eX5_readCondition_2 kiconst_m1 ?_
  refine q_istore_n (lv' := [(2, .int (-1)), (1, .int (-1)), (0, .ref 23)]) eX5_readCondition_3 rfl (by decide) rfl ?_
  refine q_iconst eX5_readCondition_4 kiconst_1 ?_
  refine q_istore_n (lv' := [(3, .int 1), (2, .int (-1)), (1, .int (-1)), (0, .ref 23)]) eX5_readCondition_5 rfl (by decide) rfl ?_
  refine q_iconst eX5_readCondition_6 kiconst_0 ?_
  refine q_istore (lv' := [(4, .int 0), (3, .int 1), (2, .int (-1)), (1, .int (-1)), (0, .ref 23)]) eX5_readCondition_7 (by decide) rfl ?_
  exact q_sub [4, 3, 2, 1, 0] rfl (jX5_readCondition_l9 X l (-1) (-1) 1 0 w)
def fX5_readDo_n115 (x2 : Int32) (w : q_W) : Option (Unit × q_W) :=
  if cC (w.2.1 23 11) = 4 then
  q_b (fX4_add_ (w.2.1 23 11) 22 x2 w) fun r2 w3 =>
  some ((), w3)
  else none
set_option maxHeartbeats 4000000 in
set_option maxRecDepth 100000 in
theorem jX5_readDo_n115 (X : q_X) (l : Launch) (x2 : Int32) (w : q_W) : q_J X S_C l mX5_readDo 29 q_tV 115 [(0, .ref 23), (2, .int x2)] [] w (fX5_readDo_n115 x2 w) := by
  refine q_aload_n 0 eX5_readDo_115 rfl rfl ?_
  refine q_getR eX5_readDo_116 fl_5_29 tC_23 rfl ?_
  refine q_ck (fun g1 => ?_)
  refine q_bipush eX5_readDo_119 kbipush_22 ?_
  refine q_iload_n 1 eX5_readDo_121 rfl rfl ?_
  refine q_callVV (As := [.int 22, .int x2]) (st := []) eX5_readDo_122 cv_5_133 (kX4_add_ X l (w.2.1 23 11) 22 x2 w) g1 rfl (by decide) rfl rfl (Nat.le_of_ble_eq_true rfl) (by decide) (fun r2 w3 => ?_)
  exact q_return eX5_readDo_125 rfl
def fX5_readDo_n78 (x1 : Int32) (x2 : Int32) (x3 : Int32) (w : q_W) : Option (Unit × q_W) :=
  q_b (fX5_take 59 w) fun r1 w2 =>
  if 0 ≤ x2 then
    if cC (w2.2.1 23 11) = 4 then
    q_b (fX4_needs (w2.2.1 23 11) x2 w2) fun r4 w5 =>
    if x3 = r4 then
      fX5_readDo_n115 x2 w5
    else
      q_b (fX5_note 5 x1 w5) fun r6 w7 =>
      fX5_readDo_n115 x2 w7
    else none
  else
    q_b (fX5_note 4 x1 w2) fun r8 w9 =>
    fX5_readDo_n115 x2 w9
set_option maxHeartbeats 4000000 in
set_option maxRecDepth 100000 in
theorem jX5_readDo_n78 (X : q_X) (l : Launch) (x1 : Int32) (x2 : Int32) (x3 : Int32) (w : q_W) : q_J X S_C l mX5_readDo 29 q_tV 78 [(0, .ref 23), (1, .int x1), (2, .int x2), (3, .int x3)] [] w (fX5_readDo_n78 x1 x2 x3 w) := by
  refine q_aload_n 0 eX5_readDo_78 rfl rfl ?_
  refine q_bipush eX5_readDo_79 kbipush_59 ?_
  refine q_callVV (As := [.int 59]) (st := []) eX5_readDo_81 cv_5_80 (kX5_take X l 59 w) tC_23 rfl (by decide) rfl rfl (Nat.le_of_ble_eq_true rfl) (by decide) (fun r1 w2 => ?_)
  refine q_iload_n 2 eX5_readDo_84 rfl rfl ?_
  refine q_if_ge (tgt := 97) eX5_readDo_85 (by decide) (fun _ => ?_) (fun _ => ?_)
  · refine q_iload_n 3 eX5_readDo_97 rfl rfl ?_
    refine q_aload_n 0 eX5_readDo_98 rfl rfl ?_
    refine q_getR eX5_readDo_99 fl_5_29 tC_23 rfl ?_
    refine q_ck (fun g3 => ?_)
    refine q_iload_n 2 eX5_readDo_102 rfl rfl ?_
    refine q_callVI (As := [.int x2]) (st := [.int x3]) eX5_readDo_103 cv_5_167 (kX4_needs X l (w2.2.1 23 11) x2 w2) g3 rfl (by decide) rfl rfl (Nat.le_of_ble_eq_true rfl) (by decide) (fun r4 w5 => ?_)
    refine q_icmp_eq (tgt := 115) eX5_readDo_106 (by decide) (fun _ => ?_) (fun _ => ?_)
    · exact q_sub [0, 2] rfl (jX5_readDo_n115 X l x2 w5)
    · refine q_aload_n 0 eX5_readDo_109 rfl rfl ?_
      refine q_iconst eX5_readDo_110 kiconst_5 ?_
      refine q_iload_n 1 eX5_readDo_111 rfl rfl ?_
      refine q_callVV (As := [.int 5, .int x1]) (st := []) eX5_readDo_112 cv_5_113 (kX5_note X l 5 x1 w5) tC_23 rfl (by decide) rfl rfl (Nat.le_of_ble_eq_true rfl) (by decide) (fun r6 w7 => ?_)
      exact q_sub [0, 2] rfl (jX5_readDo_n115 X l x2 w7)
  · refine q_aload_n 0 eX5_readDo_88 rfl rfl ?_
    refine q_iconst eX5_readDo_89 kiconst_4 ?_
    refine q_iload_n 1 eX5_readDo_90 rfl rfl ?_
    refine q_callVV (As := [.int 4, .int x1]) (st := []) eX5_readDo_91 cv_5_113 (kX5_note X l 4 x1 w2) tC_23 rfl (by decide) rfl rfl (Nat.le_of_ble_eq_true rfl) (by decide) (fun r8 w9 => ?_)
    refine q_goto (tgt := 115) eX5_readDo_94 (by decide) ?_
    exact q_sub [0, 2] rfl (jX5_readDo_n115 X l x2 w9)
def fX5_readDo_n72 (x1 : Int32) (x2 : Int32) (x3 : Int32) (w : q_W) : Option (Unit × q_W) :=
  q_b (fX5_take 41 w) fun r1 w2 =>
  fX5_readDo_n78 x1 x2 x3 w2
set_option maxHeartbeats 4000000 in
set_option maxRecDepth 100000 in
theorem jX5_readDo_n72 (X : q_X) (l : Launch) (x1 : Int32) (x2 : Int32) (x3 : Int32) (w : q_W) : q_J X S_C l mX5_readDo 29 q_tV 72 [(0, .ref 23), (1, .int x1), (2, .int x2), (3, .int x3)] [] w (fX5_readDo_n72 x1 x2 x3 w) := by
  refine q_aload_n 0 eX5_readDo_72 rfl rfl ?_
  refine q_bipush eX5_readDo_73 kbipush_41 ?_
  refine q_callVV (As := [.int 41]) (st := []) eX5_readDo_75 cv_5_80 (kX5_take X l 41 w) tC_23 rfl (by decide) rfl rfl (Nat.le_of_ble_eq_true rfl) (by decide) (fun r1 w2 => ?_)
  exact q_sub [0, 1, 2, 3] rfl (jX5_readDo_n78 X l x1 x2 x3 w2)
def fX5_readDo (w : q_W) : Option (Unit × q_W) :=
  q_lt (w.1 23 6) fun y1 =>
  q_b (fX7_saysAt (w.1 23 4) w) fun r2 w3 =>
  q_b (fX5_patternOf r2 w3) fun r4 w5 =>
  q_b (fX5_take 1 w5) fun r6 w7 =>
  if (w7.1 23 5) = 40 then
    q_b (fX5_take 40 w7) fun r8 w9 =>
    q_b (q_sum 0 w9) fun r10 w11 =>
    if (w11.1 23 5) = 44 then
      q_b (fX5_take 44 w11) fun r12 w13 =>
      q_b (q_sum 0 w13) fun r14 w15 =>
      fX5_readDo_n72 y1 r4 2 w15
    else
      fX5_readDo_n72 y1 r4 1 w11
  else
    fX5_readDo_n78 y1 r4 0 w7
set_option maxHeartbeats 4000000 in
set_option maxRecDepth 100000 in
theorem kX5_readDo (X : q_X) (l : Launch) (w : q_W) : q_Ct X S_C l mX5_readDo 29 q_tV [.ref 23] w (fX5_readDo w) := by
  refine q_intro (lv := [(0, .ref 23)]) (by decide +kernel) rfl (Nat.le_of_ble_eq_true rfl) rfl ?_
  refine q_aload_n 0 eX5_readDo_0 rfl rfl ?_
  refine q_getI eX5_readDo_1 fl_5_60 tC_23 rfl ?_
  refine q_ltI (fun y1 => ?_)
  refine q_istore_n (lv' := [(1, .int y1), (0, .ref 23)]) eX5_readDo_4 rfl (by decide) rfl ?_
  refine q_aload_n 1 eX5_readDo_5 rfl rfl ?_
  refine q_aload_n 1 eX5_readDo_6 rfl rfl ?_
  refine q_getG (v := 24) eX5_readDo_7 fl_5_12 tC_23 rfl gC_23_0 ?_
  refine q_aload_n 1 eX5_readDo_10 rfl rfl ?_
  refine q_getI eX5_readDo_11 fl_5_47 tC_23 rfl ?_
  refine q_callVL (As := [.int (w.1 23 4)]) (st := [.ref 23]) eX5_readDo_14 cv_5_83 (kX7_saysAt X l (w.1 23 4) w) tC_24 rfl (by decide) rfl rfl (Nat.le_of_ble_eq_true rfl) (by decide) (fun r2 w3 => ?_)
  refine q_callVI (As := [.long r2]) (st := []) eX5_readDo_17 cv_5_109 (kX5_patternOf X l r2 w3) tC_23 rfl (by decide) rfl rfl (Nat.le_of_ble_eq_true rfl) (by decide) (fun r4 w5 => ?_)
  refine q_istore_n (lv' := [(2, .int r4), (1, .int y1), (0, .ref 23)]) eX5_readDo_20 rfl (by decide) rfl ?_
  refine q_aload_n 2 eX5_readDo_21 rfl rfl ?_
  refine q_iconst eX5_readDo_22 kiconst_1 ?_
  refine q_callVV (As := [.int 1]) (st := []) eX5_readDo_23 cv_5_80 (kX5_take X l 1 w5) tC_23 rfl (by decide) rfl rfl (Nat.le_of_ble_eq_true rfl) (by decide) (fun r6 w7 => ?_)
  refine q_iconst eX5_readDo_26 kiconst_0 ?_
  refine q_istore_n (lv' := [(3, .int 0), (2, .int r4), (1, .int y1), (0, .ref 23)]) eX5_readDo_27 rfl (by decide) rfl ?_
  refine q_aload_n 3 eX5_readDo_28 rfl rfl ?_
  refine q_getI eX5_readDo_29 fl_5_54 tC_23 rfl ?_
  refine q_bipush eX5_readDo_32 kbipush_40 ?_
  refine q_icmp_ne (tgt := 78) eX5_readDo_34 (by decide) (fun _ => ?_) (fun _ => ?_)
  · refine q_aload_n 3 eX5_readDo_37 rfl rfl ?_
    refine q_bipush eX5_readDo_38 kbipush_40 ?_
    refine q_callVV (As := [.int 40]) (st := []) eX5_readDo_40 cv_5_80 (kX5_take X l 40 w7) tC_23 rfl (by decide) rfl rfl (Nat.le_of_ble_eq_true rfl) (by decide) (fun r8 w9 => ?_)
    refine q_aload_n 3 eX5_readDo_43 rfl rfl ?_
    refine q_iconst eX5_readDo_44 kiconst_0 ?_
    refine q_callVV (As := [.int 0]) (st := []) eX5_readDo_45 cv_5_152 (k_sum X l 0 w9) tC_23 rfl (by decide) rfl rfl (Nat.le_of_ble_eq_true rfl) (by decide) (fun r10 w11 => ?_)
    refine q_iconst eX5_readDo_48 kiconst_1 ?_
    refine q_istore_n (lv' := [(3, .int 1), (2, .int r4), (1, .int y1), (0, .ref 23)]) eX5_readDo_49 rfl (by decide) rfl ?_
    refine q_aload_n 3 eX5_readDo_50 rfl rfl ?_
    refine q_getI eX5_readDo_51 fl_5_54 tC_23 rfl ?_
    refine q_bipush eX5_readDo_54 kbipush_44 ?_
    refine q_icmp_ne (tgt := 72) eX5_readDo_56 (by decide) (fun _ => ?_) (fun _ => ?_)
    · refine q_aload_n 3 eX5_readDo_59 rfl rfl ?_
      refine q_bipush eX5_readDo_60 kbipush_44 ?_
      refine q_callVV (As := [.int 44]) (st := []) eX5_readDo_62 cv_5_80 (kX5_take X l 44 w11) tC_23 rfl (by decide) rfl rfl (Nat.le_of_ble_eq_true rfl) (by decide) (fun r12 w13 => ?_)
      refine q_aload_n 3 eX5_readDo_65 rfl rfl ?_
      refine q_iconst eX5_readDo_66 kiconst_0 ?_
      refine q_callVV (As := [.int 0]) (st := []) eX5_readDo_67 cv_5_152 (k_sum X l 0 w13) tC_23 rfl (by decide) rfl rfl (Nat.le_of_ble_eq_true rfl) (by decide) (fun r14 w15 => ?_)
      refine q_iconst eX5_readDo_70 kiconst_2 ?_
      refine q_istore_n (lv' := [(3, .int 2), (2, .int r4), (1, .int y1), (0, .ref 23)]) eX5_readDo_71 rfl (by decide) rfl ?_
      exact q_sub [3, 2, 1, 0] rfl (jX5_readDo_n72 X l y1 r4 2 w15)
    · exact q_sub [3, 2, 1, 0] rfl (jX5_readDo_n72 X l y1 r4 1 w11)
  · exact q_sub [3, 2, 1, 0] rfl (jX5_readDo_n78 X l y1 r4 0 w7)
def fX5_readStroke_n71 (rec52 : Int32 → Int32 → Int32 → q_W → Option (Unit × q_W)) (x1 : Int32) (x2 : Int32) (x3 : Int32) (w : q_W) : Option (Unit × q_W) :=
  q_b (q_sum 0 w) fun r1 w2 =>
  q_lt (x3 + 1) fun y3 =>
  rec52 x1 x2 y3 w2
set_option maxHeartbeats 4000000 in
set_option maxRecDepth 100000 in
theorem jX5_readStroke_n71 (X : q_X) (l : Launch) (rec52 : Int32 → Int32 → Int32 → q_W → Option (Unit × q_W)) (hr52 : ∀ x1 x2 x3 w, q_J X S_C l mX5_readStroke 29 q_tV 52 [(0, .ref 23), (1, .int x1), (2, .int x2), (3, .int x3)] [] w (rec52 x1 x2 x3 w)) (x1 : Int32) (x2 : Int32) (x3 : Int32) (w : q_W) : q_J X S_C l mX5_readStroke 29 q_tV 71 [(0, .ref 23), (1, .int x1), (2, .int x2), (3, .int x3)] [] w (fX5_readStroke_n71 rec52 x1 x2 x3 w) := by
  refine q_aload_n 0 eX5_readStroke_71 rfl rfl ?_
  refine q_iconst eX5_readStroke_72 kiconst_0 ?_
  refine q_callVV (As := [.int 0]) (st := []) eX5_readStroke_73 cv_5_152 (k_sum X l 0 w) tC_23 rfl (by decide) rfl rfl (Nat.le_of_ble_eq_true rfl) (by decide) (fun r1 w2 => ?_)
  refine q_ltE (fun y3 hy3 => ?_)
  refine q_iinc (v := y3) (lv' := [(3, .int y3), (0, .ref 23), (1, .int x1), (2, .int x2)]) 3 eX5_readStroke_76 rfl hy3 (by decide) rfl ?_
  refine q_goto (tgt := 52) eX5_readStroke_79 (by decide) ?_
  exact q_sub [1, 2, 3, 0] rfl (hr52 x1 x2 y3 w2)
def fX5_readStroke_h52 (rec52 : Int32 → Int32 → Int32 → q_W → Option (Unit × q_W)) (x1 : Int32) (x2 : Int32) (x3 : Int32) (w : q_W) : Option (Unit × q_W) :=
  q_b (fX6_numbersOf x1 w) fun r1 w2 =>
  if r1 ≤ x3 then
    q_b (fX5_take 59 w2) fun r3 w4 =>
    if cC (w4.2.1 23 11) = 4 then
    q_b (fX4_add_ (w4.2.1 23 11) 21 x1 w4) fun r6 w7 =>
    some ((), w7)
    else none
  else
    if x3 ≤ x2 then
      fX5_readStroke_n71 rec52 x1 x2 x3 w2
    else
      q_b (fX5_take 44 w2) fun r8 w9 =>
      fX5_readStroke_n71 rec52 x1 x2 x3 w9
def fX5_readStroke_l52 : Int32 → Int32 → Int32 → q_W → Option (Unit × q_W) := q_it q_N (fX5_readStroke_h52) (fun _ _ _ _ => none)
set_option maxHeartbeats 4000000 in
set_option maxRecDepth 100000 in
theorem jX5_readStroke_h52 (X : q_X) (l : Launch) (rec52 : Int32 → Int32 → Int32 → q_W → Option (Unit × q_W)) (hr52 : ∀ x1 x2 x3 w, q_J X S_C l mX5_readStroke 29 q_tV 52 [(0, .ref 23), (1, .int x1), (2, .int x2), (3, .int x3)] [] w (rec52 x1 x2 x3 w)) : ∀ x1 x2 x3 w, q_J X S_C l mX5_readStroke 29 q_tV 52 [(0, .ref 23), (1, .int x1), (2, .int x2), (3, .int x3)] [] w (fX5_readStroke_h52 rec52 x1 x2 x3 w) := by
  intro x1 x2 x3 w
  refine q_iload_n 3 eX5_readStroke_52 rfl rfl ?_
  refine q_iload_n 1 eX5_readStroke_53 rfl rfl ?_
  refine q_callSI (As := [.int x1]) (st := [.int x3]) eX5_readStroke_54 cv_5_147 (kX6_numbersOf X l x1 w) rfl rfl (Nat.le_of_ble_eq_true rfl) (by decide) (fun r1 w2 => ?_)
  refine q_icmp_ge (tgt := 82) eX5_readStroke_57 (by decide) (fun _ => ?_) (fun _ => ?_)
  · refine q_aload_n 0 eX5_readStroke_82 rfl rfl ?_
    refine q_bipush eX5_readStroke_83 kbipush_59 ?_
    refine q_callVV (As := [.int 59]) (st := []) eX5_readStroke_85 cv_5_80 (kX5_take X l 59 w2) tC_23 rfl (by decide) rfl rfl (Nat.le_of_ble_eq_true rfl) (by decide) (fun r3 w4 => ?_)
    refine q_aload_n 0 eX5_readStroke_88 rfl rfl ?_
    refine q_getR eX5_readStroke_89 fl_5_29 tC_23 rfl ?_
    refine q_ck (fun g5 => ?_)
    refine q_bipush eX5_readStroke_92 kbipush_21 ?_
    refine q_iload_n 1 eX5_readStroke_94 rfl rfl ?_
    refine q_callVV (As := [.int 21, .int x1]) (st := []) eX5_readStroke_95 cv_5_133 (kX4_add_ X l (w4.2.1 23 11) 21 x1 w4) g5 rfl (by decide) rfl rfl (Nat.le_of_ble_eq_true rfl) (by decide) (fun r6 w7 => ?_)
    exact q_return eX5_readStroke_98 rfl
  · refine q_iload_n 3 eX5_readStroke_60 rfl rfl ?_
    refine q_iload_n 2 eX5_readStroke_61 rfl rfl ?_
    refine q_icmp_le (tgt := 71) eX5_readStroke_62 (by decide) (fun _ => ?_) (fun _ => ?_)
    · exact q_sub [0, 1, 2, 3] rfl (jX5_readStroke_n71 X l rec52 hr52 x1 x2 x3 w2)
    · refine q_aload_n 0 eX5_readStroke_65 rfl rfl ?_
      refine q_bipush eX5_readStroke_66 kbipush_44 ?_
      refine q_callVV (As := [.int 44]) (st := []) eX5_readStroke_68 cv_5_80 (kX5_take X l 44 w2) tC_23 rfl (by decide) rfl rfl (Nat.le_of_ble_eq_true rfl) (by decide) (fun r8 w9 => ?_)
      exact q_sub [0, 1, 2, 3] rfl (jX5_readStroke_n71 X l rec52 hr52 x1 x2 x3 w9)
set_option maxHeartbeats 4000000 in
set_option maxRecDepth 100000 in
theorem jX5_readStroke_l52 (X : q_X) (l : Launch) : ∀ x1 x2 x3 w, q_J X S_C l mX5_readStroke 29 q_tV 52 [(0, .ref 23), (1, .int x1), (2, .int x2), (3, .int x3)] [] w (fX5_readStroke_l52 x1 x2 x3 w) := by
  exact q_it_ind (fun rc => ∀ x1 x2 x3 w, q_J X S_C l mX5_readStroke 29 q_tV 52 [(0, .ref 23), (1, .int x1), (2, .int x2), (3, .int x3)] [] w (rc x1 x2 x3 w)) _ _ (fun _ _ _ _ => q_none) (fun rc hrc => jX5_readStroke_h52 X l rc hrc) q_N
def fX5_readStroke_n50 (x1 : Int32) (x2 : Int32) (w : q_W) : Option (Unit × q_W) :=
  fX5_readStroke_l52 x1 x2 x2 w
set_option maxHeartbeats 4000000 in
set_option maxRecDepth 100000 in
theorem jX5_readStroke_n50 (X : q_X) (l : Launch) (x1 : Int32) (x2 : Int32) (w : q_W) : q_J X S_C l mX5_readStroke 29 q_tV 50 [(0, .ref 23), (1, .int x1), (2, .int x2)] [] w (fX5_readStroke_n50 x1 x2 w) := by
  refine q_iload_n 2 eX5_readStroke_50 rfl rfl ?_
  refine q_istore_n (lv' := [(3, .int x2), (0, .ref 23), (1, .int x1), (2, .int x2)]) eX5_readStroke_51 rfl (by decide) rfl ?_
  exact q_sub [1, 2, 3, 0] rfl (jX5_readStroke_l52 X l x1 x2 x2 w)
def fX5_readStroke_n45 (x1 : Int32) (s0 : Int32) (w : q_W) : Option (Unit × q_W) :=
  q_b (fX5_take s0 w) fun r1 w2 =>
  fX5_readStroke_n50 x1 1 w2
set_option maxHeartbeats 4000000 in
set_option maxRecDepth 100000 in
theorem jX5_readStroke_n45 (X : q_X) (l : Launch) (x1 : Int32) (s0 : Int32) (w : q_W) : q_J X S_C l mX5_readStroke 29 q_tV 45 [(0, .ref 23), (1, .int x1)] [.int s0, .ref 23] w (fX5_readStroke_n45 x1 s0 w) := by
  refine q_callVV (As := [.int s0]) (st := []) eX5_readStroke_45 cv_5_80 (kX5_take X l s0 w) tC_23 rfl (by decide) rfl rfl (Nat.le_of_ble_eq_true rfl) (by decide) (fun r1 w2 => ?_)
  refine q_iconst eX5_readStroke_48 kiconst_1 ?_
  refine q_istore_n (lv' := [(2, .int 1), (0, .ref 23), (1, .int x1)]) eX5_readStroke_49 rfl (by decide) rfl ?_
  exact q_sub [1, 2, 0] rfl (jX5_readStroke_n50 X l x1 1 w2)
def fX5_readStroke_n25 (x1 : Int32) (s0 : Int32) (s1 : Int32) (s2 : Nat) (w : q_W) : Option (Unit × q_W) :=
  q_b (fX4_add_ s2 s1 s0 w) fun r1 w2 =>
  if (w2.1 23 5) = 15 then
    fX5_readStroke_n45 x1 15 w2
  else
    fX5_readStroke_n45 x1 14 w2
set_option maxHeartbeats 4000000 in
set_option maxRecDepth 100000 in
theorem jX5_readStroke_n25 (X : q_X) (l : Launch) (x1 : Int32) (s0 : Int32) (s1 : Int32) (s2 : Nat) (hs2 : cC s2 = 4) (w : q_W) : q_J X S_C l mX5_readStroke 29 q_tV 25 [(0, .ref 23), (1, .int x1)] [.int s0, .int s1, .ref s2] w (fX5_readStroke_n25 x1 s0 s1 s2 w) := by
  refine q_callVV (As := [.int s1, .int s0]) (st := []) eX5_readStroke_25 cv_5_133 (kX4_add_ X l s2 s1 s0 w) hs2 rfl (by decide) rfl rfl (Nat.le_of_ble_eq_true rfl) (by decide) (fun r1 w2 => ?_)
  refine q_aload_n 0 eX5_readStroke_28 rfl rfl ?_
  refine q_aload_n 0 eX5_readStroke_29 rfl rfl ?_
  refine q_getI eX5_readStroke_30 fl_5_54 tC_23 rfl ?_
  refine q_bipush eX5_readStroke_33 kbipush_15 ?_
  refine q_icmp_ne (tgt := 43) eX5_readStroke_35 (by decide) (fun _ => ?_) (fun _ => ?_)
  · refine q_bipush eX5_readStroke_38 kbipush_15 ?_
    refine q_goto (tgt := 45) eX5_readStroke_40 (by decide) ?_
    exact q_sub [0, 1] rfl (jX5_readStroke_n45 X l x1 15 w2)
  · refine q_bipush eX5_readStroke_43 kbipush_14 ?_
    exact q_sub [0, 1] rfl (jX5_readStroke_n45 X l x1 14 w2)
def fX5_readStroke (a1 : Int32) (w : q_W) : Option (Unit × q_W) :=
  if a1 = 0 then
    fX5_readStroke_n50 a1 0 w
  else
    if cC (w.2.1 23 11) = 4 then
    if (w.1 23 5) = 15 then
      fX5_readStroke_n25 a1 1 2 (w.2.1 23 11) w
    else
      fX5_readStroke_n25 a1 0 2 (w.2.1 23 11) w
    else none
set_option maxHeartbeats 4000000 in
set_option maxRecDepth 100000 in
theorem kX5_readStroke (X : q_X) (l : Launch) (a1 : Int32) (w : q_W) : q_Ct X S_C l mX5_readStroke 29 q_tV [.ref 23, .int a1] w (fX5_readStroke a1 w) := by
  refine q_intro (lv := [(0, .ref 23), (1, .int a1)]) (by decide +kernel) rfl (Nat.le_of_ble_eq_true rfl) rfl ?_
  refine q_iconst eX5_readStroke_0 kiconst_0 ?_
  refine q_istore_n (lv' := [(2, .int 0), (0, .ref 23), (1, .int a1)]) eX5_readStroke_1 rfl (by decide) rfl ?_
  refine q_iload_n 2 eX5_readStroke_2 rfl rfl ?_
  refine q_if_eq (tgt := 50) eX5_readStroke_3 (by decide) (fun _ => ?_) (fun _ => ?_)
  · exact q_sub [1, 2, 0] rfl (jX5_readStroke_n50 X l a1 0 w)
  · refine q_aload_n 1 eX5_readStroke_6 rfl rfl ?_
    refine q_getR eX5_readStroke_7 fl_5_29 tC_23 rfl ?_
    refine q_ck (fun g1 => ?_)
    refine q_iconst eX5_readStroke_10 kiconst_2 ?_
    refine q_aload_n 1 eX5_readStroke_11 rfl rfl ?_
    refine q_getI eX5_readStroke_12 fl_5_54 tC_23 rfl ?_
    refine q_bipush eX5_readStroke_15 kbipush_15 ?_
    refine q_icmp_ne (tgt := 24) eX5_readStroke_17 (by decide) (fun _ => ?_) (fun _ => ?_)
    · refine q_iconst eX5_readStroke_20 kiconst_1 ?_
      refine q_goto (tgt := 25) eX5_readStroke_21 (by decide) ?_
      exact q_sub [1, 2] rfl (jX5_readStroke_n25 X l a1 1 2 (w.2.1 23 11) g1 w)
    · refine q_iconst eX5_readStroke_24 kiconst_0 ?_
      exact q_sub [1, 2] rfl (jX5_readStroke_n25 X l a1 0 2 (w.2.1 23 11) g1 w)
def fX5_startsDeed_n16 (x0 : Int32) (s0 : Int32) (w : q_W) : Option (Int32 × q_W) :=
  if s0 = 0 then
    if x0 = 9 then
      some (1, w)
    else
      if x0 = 11 then
        some (1, w)
      else
        if x0 = 13 then
          some (1, w)
        else
          some (0, w)
  else
    some (1, w)
set_option maxHeartbeats 4000000 in
set_option maxRecDepth 100000 in
theorem jX5_startsDeed_n16 (X : q_X) (l : Launch) (x0 : Int32) (s0 : Int32) (w : q_W) : q_J X S_C l mX5_startsDeed 0 q_tI 16 [(0, .int x0)] [.int s0] w (fX5_startsDeed_n16 x0 s0 w) := by
  refine q_istore_n (lv' := [(1, .int s0), (0, .int x0)]) eX5_startsDeed_16 rfl (by decide) rfl ?_
  refine q_iload_n 0 eX5_startsDeed_17 rfl rfl ?_
  refine q_if_ne (tgt := 39) eX5_startsDeed_18 (by decide) (fun _ => ?_) (fun _ => ?_)
  · refine q_iload_n 1 eX5_startsDeed_21 rfl rfl ?_
    refine q_bipush eX5_startsDeed_22 kbipush_9 ?_
    refine q_icmp_eq (tgt := 39) eX5_startsDeed_24 (by decide) (fun _ => ?_) (fun _ => ?_)
    · refine q_iconst eX5_startsDeed_39 kiconst_1 ?_
      refine q_goto (tgt := 44) eX5_startsDeed_40 (by decide) ?_
      exact q_zret eX5_startsDeed_44 rfl rfl
    · refine q_iload_n 1 eX5_startsDeed_27 rfl rfl ?_
      refine q_bipush eX5_startsDeed_28 kbipush_11 ?_
      refine q_icmp_eq (tgt := 39) eX5_startsDeed_30 (by decide) (fun _ => ?_) (fun _ => ?_)
      · refine q_iconst eX5_startsDeed_39 kiconst_1 ?_
        refine q_goto (tgt := 44) eX5_startsDeed_40 (by decide) ?_
        exact q_zret eX5_startsDeed_44 rfl rfl
      · refine q_iload_n 1 eX5_startsDeed_33 rfl rfl ?_
        refine q_bipush eX5_startsDeed_34 kbipush_13 ?_
        refine q_icmp_ne (tgt := 43) eX5_startsDeed_36 (by decide) (fun _ => ?_) (fun _ => ?_)
        · refine q_iconst eX5_startsDeed_39 kiconst_1 ?_
          refine q_goto (tgt := 44) eX5_startsDeed_40 (by decide) ?_
          exact q_zret eX5_startsDeed_44 rfl rfl
        · refine q_iconst eX5_startsDeed_43 kiconst_0 ?_
          exact q_zret eX5_startsDeed_44 rfl rfl
  · refine q_iconst eX5_startsDeed_39 kiconst_1 ?_
    refine q_goto (tgt := 44) eX5_startsDeed_40 (by decide) ?_
    exact q_zret eX5_startsDeed_44 rfl rfl
def fX5_startsDeed_n15 (x0 : Int32) (w : q_W) : Option (Int32 × q_W) :=
  fX5_startsDeed_n16 x0 0 w
set_option maxHeartbeats 4000000 in
set_option maxRecDepth 100000 in
theorem jX5_startsDeed_n15 (X : q_X) (l : Launch) (x0 : Int32) (w : q_W) : q_J X S_C l mX5_startsDeed 0 q_tI 15 [(0, .int x0)] [] w (fX5_startsDeed_n15 x0 w) := by
  refine q_iconst eX5_startsDeed_15 kiconst_0 ?_
  exact q_sub [0] rfl (jX5_startsDeed_n16 X l x0 0 w)
def fX5_startsDeed (a0 : Int32) (w : q_W) : Option (Int32 × q_W) :=
  if a0 < 5 then
    fX5_startsDeed_n15 a0 w
  else
    if 8 < a0 then
      fX5_startsDeed_n15 a0 w
    else
      fX5_startsDeed_n16 a0 1 w
set_option maxHeartbeats 4000000 in
set_option maxRecDepth 100000 in
theorem kX5_startsDeed (X : q_X) (l : Launch) (a0 : Int32) (w : q_W) : q_Ct X S_C l mX5_startsDeed 0 q_tI [.int a0] w (fX5_startsDeed a0 w) := by
  refine q_intro (lv := [(0, .int a0)]) (by decide +kernel) rfl (Nat.le_of_ble_eq_true rfl) rfl ?_
  refine q_iload_n 0 eX5_startsDeed_0 rfl rfl ?_
  refine q_iconst eX5_startsDeed_1 kiconst_5 ?_
  refine q_icmp_lt (tgt := 15) eX5_startsDeed_2 (by decide) (fun _ => ?_) (fun _ => ?_)
  · exact q_sub [0] rfl (jX5_startsDeed_n15 X l a0 w)
  · refine q_iload_n 0 eX5_startsDeed_5 rfl rfl ?_
    refine q_bipush eX5_startsDeed_6 kbipush_8 ?_
    refine q_icmp_gt (tgt := 15) eX5_startsDeed_8 (by decide) (fun _ => ?_) (fun _ => ?_)
    · exact q_sub [0] rfl (jX5_startsDeed_n15 X l a0 w)
    · refine q_iconst eX5_startsDeed_11 kiconst_1 ?_
      refine q_goto (tgt := 16) eX5_startsDeed_12 (by decide) ?_
      exact q_sub [0] rfl (jX5_startsDeed_n16 X l a0 1 w)
def fX5_readFor (rB : Int32 → q_W → Option (Unit × q_W)) (a1 : Int32) (a2 : Int32) (w : q_W) : Option (Unit × q_W) :=
  q_b (fX7_saysAt (w.1 23 4) w) fun r1 w2 =>
  q_b (fX5_noteIfReached r1 w2) fun r3 w4 =>
  q_b (fX5_take 1 w4) fun r5 w6 =>
  q_b (fX5_take 61 w6) fun r7 w8 =>
  q_b (q_sum 0 w8) fun r9 w10 =>
  q_b (fX5_take 10 w10) fun r11 w12 =>
  q_b (q_sum 0 w12) fun r13 w14 =>
  q_lt (w14.1 23 3) fun y15 =>
  q_b (fX5_bringInReach r1 w14) fun r16 w17 =>
  if cC (w17.2.1 23 11) = 4 then
  q_b (fX4_add__ (w17.2.1 23 11) 18 y15 0 w17) fun r19 w20 =>
  if cC (w20.2.1 23 11) = 4 then
  q_b (fX4_here (w20.2.1 23 11) w20) fun r22 w23 =>
  q_lt (r22 - 1) fun y24 =>
  if cC (w23.2.1 23 11) = 4 then
  q_b (fX4_here (w23.2.1 23 11) w23) fun r26 w27 =>
  if cC (w27.2.1 23 11) = 4 then
  q_b (fX4_add_ (w27.2.1 23 11) 19 a1 w27) fun r29 w30 =>
  q_b (rB (a2 + 1) w30) fun r31 w32 =>
  q_b (fX5_take 4 w32) fun r33 w34 =>
  if cC (w34.2.1 23 11) = 4 then
  q_b (fX4_add__ (w34.2.1 23 11) 20 y15 r26 w34) fun r36 w37 =>
  if cC (w37.2.1 23 11) = 4 then
  q_b (fX4_aimHere (w37.2.1 23 11) y24 w37) fun r39 w40 =>
  q_lt (q_sI w40 23 3 y15) fun w41 =>
  some ((), w41)
  else none
  else none
  else none
  else none
  else none
  else none
set_option maxHeartbeats 4000000 in
set_option maxRecDepth 100000 in
theorem kX5_readFor (X : q_X) (l : Launch) (d : Nat) (hd0 : 29 ≤ d) (rB : Int32 → q_W → Option (Unit × q_W)) (drB : Nat) (hrB : ∀ a0 w, q_Ct X S_C l mX5_readDeeds drB q_tV [.ref 23, .int a0] w (rB a0 w)) (erB : drB + 1 ≤ d) (a1 : Int32) (a2 : Int32) (w : q_W) : q_Ct X S_C l mX5_readFor d q_tV [.ref 23, .int a1, .int a2] w (fX5_readFor rB a1 a2 w) := by
  refine q_intro (lv := [(0, .ref 23), (1, .int a1), (2, .int a2)]) (by decide +kernel) rfl (Nat.le_of_ble_eq_true rfl) rfl ?_
  refine q_aload_n 0 eX5_readFor_0 rfl rfl ?_
  refine q_getG (v := 24) eX5_readFor_1 fl_5_12 tC_23 rfl gC_23_0 ?_
  refine q_aload_n 0 eX5_readFor_4 rfl rfl ?_
  refine q_getI eX5_readFor_5 fl_5_47 tC_23 rfl ?_
  refine q_callVL (As := [.int (w.1 23 4)]) (st := []) eX5_readFor_8 cv_5_83 (kX7_saysAt X l (w.1 23 4) w) tC_24 rfl (by decide) rfl rfl (Nat.le_of_ble_eq_true rfl) (by omega) (fun r1 w2 => ?_)
  refine q_lstore_n (lv' := [(3, .long r1), (0, .ref 23), (1, .int a1), (2, .int a2)]) eX5_readFor_11 rfl (by decide) rfl ?_
  refine q_aload_n 1 eX5_readFor_12 rfl rfl ?_
  refine q_lload_n 0 eX5_readFor_13 rfl rfl ?_
  refine q_callVV (As := [.long r1]) (st := []) eX5_readFor_14 cv_5_117 (kX5_noteIfReached X l r1 w2) tC_23 rfl (by decide) rfl rfl (Nat.le_of_ble_eq_true rfl) (by omega) (fun r3 w4 => ?_)
  refine q_aload_n 1 eX5_readFor_17 rfl rfl ?_
  refine q_iconst eX5_readFor_18 kiconst_1 ?_
  refine q_callVV (As := [.int 1]) (st := []) eX5_readFor_19 cv_5_80 (kX5_take X l 1 w4) tC_23 rfl (by decide) rfl rfl (Nat.le_of_ble_eq_true rfl) (by omega) (fun r5 w6 => ?_)
  refine q_aload_n 1 eX5_readFor_22 rfl rfl ?_
  refine q_bipush eX5_readFor_23 kbipush_61 ?_
  refine q_callVV (As := [.int 61]) (st := []) eX5_readFor_25 cv_5_80 (kX5_take X l 61 w6) tC_23 rfl (by decide) rfl rfl (Nat.le_of_ble_eq_true rfl) (by omega) (fun r7 w8 => ?_)
  refine q_aload_n 1 eX5_readFor_28 rfl rfl ?_
  refine q_iconst eX5_readFor_29 kiconst_0 ?_
  refine q_callVV (As := [.int 0]) (st := []) eX5_readFor_30 cv_5_152 (k_sum X l 0 w8) tC_23 rfl (by decide) rfl rfl (Nat.le_of_ble_eq_true rfl) (by omega) (fun r9 w10 => ?_)
  refine q_aload_n 1 eX5_readFor_33 rfl rfl ?_
  refine q_bipush eX5_readFor_34 kbipush_10 ?_
  refine q_callVV (As := [.int 10]) (st := []) eX5_readFor_36 cv_5_80 (kX5_take X l 10 w10) tC_23 rfl (by decide) rfl rfl (Nat.le_of_ble_eq_true rfl) (by omega) (fun r11 w12 => ?_)
  refine q_aload_n 1 eX5_readFor_39 rfl rfl ?_
  refine q_iconst eX5_readFor_40 kiconst_0 ?_
  refine q_callVV (As := [.int 0]) (st := []) eX5_readFor_41 cv_5_152 (k_sum X l 0 w12) tC_23 rfl (by decide) rfl rfl (Nat.le_of_ble_eq_true rfl) (by omega) (fun r13 w14 => ?_)
  refine q_aload_n 1 eX5_readFor_44 rfl rfl ?_
  refine q_getI eX5_readFor_45 fl_5_91 tC_23 rfl ?_
  refine q_ltI (fun y15 => ?_)
  refine q_istore (lv' := [(5, .int y15), (3, .long r1), (0, .ref 23), (1, .int a1), (2, .int a2)]) eX5_readFor_48 (by decide) rfl ?_
  refine q_aload_n 2 eX5_readFor_50 rfl rfl ?_
  refine q_lload_n 1 eX5_readFor_51 rfl rfl ?_
  refine q_callVV (As := [.long r1]) (st := []) eX5_readFor_52 cv_5_120 (kX5_bringInReach X l r1 w14) tC_23 rfl (by decide) rfl rfl (Nat.le_of_ble_eq_true rfl) (by omega) (fun r16 w17 => ?_)
  refine q_aload_n 2 eX5_readFor_55 rfl rfl ?_
  refine q_getR eX5_readFor_56 fl_5_29 tC_23 rfl ?_
  refine q_ck (fun g18 => ?_)
  refine q_bipush eX5_readFor_59 kbipush_18 ?_
  refine q_iload 0 eX5_readFor_61 rfl ?_
  refine q_iconst eX5_readFor_63 kiconst_0 ?_
  refine q_callVV (As := [.int 18, .int y15, .int 0]) (st := []) eX5_readFor_64 cv_5_155 (kX4_add__ X l (w17.2.1 23 11) 18 y15 0 w17) g18 rfl (by decide) rfl rfl (Nat.le_of_ble_eq_true rfl) (by omega) (fun r19 w20 => ?_)
  refine q_aload_n 2 eX5_readFor_67 rfl rfl ?_
  refine q_getR eX5_readFor_68 fl_5_29 tC_23 rfl ?_
  refine q_ck (fun g21 => ?_)
  refine q_callVI (As := []) (st := []) eX5_readFor_71 cv_5_158 (kX4_here X l (w20.2.1 23 11) w20) g21 rfl (by decide) rfl rfl (Nat.le_of_ble_eq_true rfl) (by omega) (fun r22 w23 => ?_)
  refine q_iconst eX5_readFor_74 kiconst_1 ?_
  refine q_isub eX5_readFor_75 ?_
  refine q_ltI (fun y24 => ?_)
  refine q_istore (lv' := [(6, .int y24), (5, .int y15), (3, .long r1), (0, .ref 23), (1, .int a1), (2, .int a2)]) eX5_readFor_76 (by decide) rfl ?_
  refine q_aload_n 3 eX5_readFor_78 rfl rfl ?_
  refine q_getR eX5_readFor_79 fl_5_29 tC_23 rfl ?_
  refine q_ck (fun g25 => ?_)
  refine q_callVI (As := []) (st := []) eX5_readFor_82 cv_5_158 (kX4_here X l (w23.2.1 23 11) w23) g25 rfl (by decide) rfl rfl (Nat.le_of_ble_eq_true rfl) (by omega) (fun r26 w27 => ?_)
  refine q_istore (lv' := [(7, .int r26), (6, .int y24), (5, .int y15), (3, .long r1), (0, .ref 23), (1, .int a1), (2, .int a2)]) eX5_readFor_85 (by decide) rfl ?_
  refine q_aload_n 4 eX5_readFor_87 rfl rfl ?_
  refine q_getR eX5_readFor_88 fl_5_29 tC_23 rfl ?_
  refine q_ck (fun g28 => ?_)
  refine q_bipush eX5_readFor_91 kbipush_19 ?_
  refine q_iload_n 5 eX5_readFor_93 rfl rfl ?_
  refine q_callVV (As := [.int 19, .int a1]) (st := []) eX5_readFor_94 cv_5_133 (kX4_add_ X l (w27.2.1 23 11) 19 a1 w27) g28 rfl (by decide) rfl rfl (Nat.le_of_ble_eq_true rfl) (by omega) (fun r29 w30 => ?_)
  refine q_aload_n 4 eX5_readFor_97 rfl rfl ?_
  refine q_iload_n 6 eX5_readFor_98 rfl rfl ?_
  refine q_iconst eX5_readFor_99 kiconst_1 ?_
  refine q_iadd eX5_readFor_100 ?_
  refine q_callVV (As := [.int (a2 + 1)]) (st := []) eX5_readFor_101 cv_5_100 (hrB (a2 + 1) w30) tC_23 rfl (by decide) rfl rfl (Nat.le_of_ble_eq_true rfl) erB (fun r31 w32 => ?_)
  refine q_aload_n 4 eX5_readFor_104 rfl rfl ?_
  refine q_iconst eX5_readFor_105 kiconst_4 ?_
  refine q_callVV (As := [.int 4]) (st := []) eX5_readFor_106 cv_5_80 (kX5_take X l 4 w32) tC_23 rfl (by decide) rfl rfl (Nat.le_of_ble_eq_true rfl) (by omega) (fun r33 w34 => ?_)
  refine q_aload_n 4 eX5_readFor_109 rfl rfl ?_
  refine q_getR eX5_readFor_110 fl_5_29 tC_23 rfl ?_
  refine q_ck (fun g35 => ?_)
  refine q_bipush eX5_readFor_113 kbipush_20 ?_
  refine q_iload 2 eX5_readFor_115 rfl ?_
  refine q_iload 0 eX5_readFor_117 rfl ?_
  refine q_callVV (As := [.int 20, .int y15, .int r26]) (st := []) eX5_readFor_119 cv_5_155 (kX4_add__ X l (w34.2.1 23 11) 20 y15 r26 w34) g35 rfl (by decide) rfl rfl (Nat.le_of_ble_eq_true rfl) (by omega) (fun r36 w37 => ?_)
  refine q_aload_n 4 eX5_readFor_122 rfl rfl ?_
  refine q_getR eX5_readFor_123 fl_5_29 tC_23 rfl ?_
  refine q_ck (fun g38 => ?_)
  refine q_iload 1 eX5_readFor_126 rfl ?_
  refine q_callVV (As := [.int y24]) (st := []) eX5_readFor_128 cv_5_161 (kX4_aimHere X l (w37.2.1 23 11) y24 w37) g38 rfl (by decide) rfl rfl (Nat.le_of_ble_eq_true rfl) (by omega) (fun r39 w40 => ?_)
  refine q_aload_n 4 eX5_readFor_131 rfl rfl ?_
  refine q_iload 2 eX5_readFor_132 rfl ?_
  refine q_putI eX5_readFor_134 fp_5_91 tC_23 rfl ⟨rfl, rfl⟩ ?_
  refine q_ltW (fun w41 => ?_)
  exact q_return eX5_readFor_137 rfl
def fX5_readIf_n83 (rB : Int32 → q_W → Option (Unit × q_W)) (x2 : Int32) (w : q_W) : Option (Unit × q_W) :=
  q_b (fX5_take 4 w) fun r1 w2 =>
  if cC (w2.2.1 23 11) = 4 then
  q_b (fX4_aimHere (w2.2.1 23 11) x2 w2) fun r4 w5 =>
  some ((), w5)
  else none
set_option maxHeartbeats 4000000 in
set_option maxRecDepth 100000 in
theorem jX5_readIf_n83 (X : q_X) (l : Launch) (d : Nat) (hd0 : 30 ≤ d) (rB : Int32 → q_W → Option (Unit × q_W)) (drB : Nat) (hrB : ∀ a0 w, q_Ct X S_C l mX5_readDeeds drB q_tV [.ref 23, .int a0] w (rB a0 w)) (erB : drB + 1 ≤ d) (x2 : Int32) (w : q_W) : q_J X S_C l mX5_readIf d q_tV 83 [(0, .ref 23), (2, .int x2)] [] w (fX5_readIf_n83 rB x2 w) := by
  refine q_aload_n 0 eX5_readIf_83 rfl rfl ?_
  refine q_iconst eX5_readIf_84 kiconst_4 ?_
  refine q_callVV (As := [.int 4]) (st := []) eX5_readIf_85 cv_5_80 (kX5_take X l 4 w) tC_23 rfl (by decide) rfl rfl (Nat.le_of_ble_eq_true rfl) (by omega) (fun r1 w2 => ?_)
  refine q_aload_n 0 eX5_readIf_88 rfl rfl ?_
  refine q_getR eX5_readIf_89 fl_5_29 tC_23 rfl ?_
  refine q_ck (fun g3 => ?_)
  refine q_iload_n 1 eX5_readIf_92 rfl rfl ?_
  refine q_callVV (As := [.int x2]) (st := []) eX5_readIf_93 cv_5_161 (kX4_aimHere X l (w2.2.1 23 11) x2 w2) g3 rfl (by decide) rfl rfl (Nat.le_of_ble_eq_true rfl) (by omega) (fun r4 w5 => ?_)
  exact q_return eX5_readIf_96 rfl
def fX5_readIf (rB : Int32 → q_W → Option (Unit × q_W)) (a1 : Int32) (w : q_W) : Option (Unit × q_W) :=
  q_b (fX5_readCondition w) fun r1 w2 =>
  if cC (w2.2.1 23 11) = 4 then
  q_b (fX4_add_ (w2.2.1 23 11) 16 0 w2) fun r4 w5 =>
  if cC (w5.2.1 23 11) = 4 then
  q_b (fX4_here (w5.2.1 23 11) w5) fun r7 w8 =>
  q_lt (r7 - 1) fun y9 =>
  q_b (rB (a1 + 1) w8) fun r10 w11 =>
  if (w11.1 23 5) = 12 then
    q_b (fX5_take 12 w11) fun r12 w13 =>
    if cC (w13.2.1 23 11) = 4 then
    q_b (fX4_add_ (w13.2.1 23 11) 17 0 w13) fun r15 w16 =>
    if cC (w16.2.1 23 11) = 4 then
    q_b (fX4_here (w16.2.1 23 11) w16) fun r18 w19 =>
    q_lt (r18 - 1) fun y20 =>
    if cC (w19.2.1 23 11) = 4 then
    q_b (fX4_aimHere (w19.2.1 23 11) y9 w19) fun r22 w23 =>
    q_b (rB (a1 + 1) w23) fun r24 w25 =>
    fX5_readIf_n83 rB y20 w25
    else none
    else none
    else none
  else
    fX5_readIf_n83 rB y9 w11
  else none
  else none
set_option maxHeartbeats 4000000 in
set_option maxRecDepth 100000 in
theorem kX5_readIf (X : q_X) (l : Launch) (d : Nat) (hd0 : 30 ≤ d) (rB : Int32 → q_W → Option (Unit × q_W)) (drB : Nat) (hrB : ∀ a0 w, q_Ct X S_C l mX5_readDeeds drB q_tV [.ref 23, .int a0] w (rB a0 w)) (erB : drB + 1 ≤ d) (a1 : Int32) (w : q_W) : q_Ct X S_C l mX5_readIf d q_tV [.ref 23, .int a1] w (fX5_readIf rB a1 w) := by
  refine q_intro (lv := [(0, .ref 23), (1, .int a1)]) (by decide +kernel) rfl (Nat.le_of_ble_eq_true rfl) rfl ?_
  refine q_aload_n 0 eX5_readIf_0 rfl rfl ?_
  refine q_callVV (As := []) (st := []) eX5_readIf_1 cv_5_164 (kX5_readCondition X l w) tC_23 rfl (by decide) rfl rfl (Nat.le_of_ble_eq_true rfl) (by omega) (fun r1 w2 => ?_)
  refine q_aload_n 0 eX5_readIf_4 rfl rfl ?_
  refine q_getR eX5_readIf_5 fl_5_29 tC_23 rfl ?_
  refine q_ck (fun g3 => ?_)
  refine q_bipush eX5_readIf_8 kbipush_16 ?_
  refine q_iconst eX5_readIf_10 kiconst_0 ?_
  refine q_callVV (As := [.int 16, .int 0]) (st := []) eX5_readIf_11 cv_5_133 (kX4_add_ X l (w2.2.1 23 11) 16 0 w2) g3 rfl (by decide) rfl rfl (Nat.le_of_ble_eq_true rfl) (by omega) (fun r4 w5 => ?_)
  refine q_aload_n 0 eX5_readIf_14 rfl rfl ?_
  refine q_getR eX5_readIf_15 fl_5_29 tC_23 rfl ?_
  refine q_ck (fun g6 => ?_)
  refine q_callVI (As := []) (st := []) eX5_readIf_18 cv_5_158 (kX4_here X l (w5.2.1 23 11) w5) g6 rfl (by decide) rfl rfl (Nat.le_of_ble_eq_true rfl) (by omega) (fun r7 w8 => ?_)
  refine q_iconst eX5_readIf_21 kiconst_1 ?_
  refine q_isub eX5_readIf_22 ?_
  refine q_ltI (fun y9 => ?_)
  refine q_istore_n (lv' := [(2, .int y9), (0, .ref 23), (1, .int a1)]) eX5_readIf_23 rfl (by decide) rfl ?_
  refine q_aload_n 1 eX5_readIf_24 rfl rfl ?_
  refine q_iload_n 2 eX5_readIf_25 rfl rfl ?_
  refine q_iconst eX5_readIf_26 kiconst_1 ?_
  refine q_iadd eX5_readIf_27 ?_
  refine q_callVV (As := [.int (a1 + 1)]) (st := []) eX5_readIf_28 cv_5_100 (hrB (a1 + 1) w8) tC_23 rfl (by decide) rfl rfl (Nat.le_of_ble_eq_true rfl) erB (fun r10 w11 => ?_)
  refine q_aload_n 1 eX5_readIf_31 rfl rfl ?_
  refine q_getI eX5_readIf_32 fl_5_54 tC_23 rfl ?_
  refine q_bipush eX5_readIf_35 kbipush_12 ?_
  refine q_icmp_ne (tgt := 83) eX5_readIf_37 (by decide) (fun _ => ?_) (fun _ => ?_)
  · refine q_aload_n 1 eX5_readIf_40 rfl rfl ?_
    refine q_bipush eX5_readIf_41 kbipush_12 ?_
    refine q_callVV (As := [.int 12]) (st := []) eX5_readIf_43 cv_5_80 (kX5_take X l 12 w11) tC_23 rfl (by decide) rfl rfl (Nat.le_of_ble_eq_true rfl) (by omega) (fun r12 w13 => ?_)
    refine q_aload_n 1 eX5_readIf_46 rfl rfl ?_
    refine q_getR eX5_readIf_47 fl_5_29 tC_23 rfl ?_
    refine q_ck (fun g14 => ?_)
    refine q_bipush eX5_readIf_50 kbipush_17 ?_
    refine q_iconst eX5_readIf_52 kiconst_0 ?_
    refine q_callVV (As := [.int 17, .int 0]) (st := []) eX5_readIf_53 cv_5_133 (kX4_add_ X l (w13.2.1 23 11) 17 0 w13) g14 rfl (by decide) rfl rfl (Nat.le_of_ble_eq_true rfl) (by omega) (fun r15 w16 => ?_)
    refine q_aload_n 1 eX5_readIf_56 rfl rfl ?_
    refine q_getR eX5_readIf_57 fl_5_29 tC_23 rfl ?_
    refine q_ck (fun g17 => ?_)
    refine q_callVI (As := []) (st := []) eX5_readIf_60 cv_5_158 (kX4_here X l (w16.2.1 23 11) w16) g17 rfl (by decide) rfl rfl (Nat.le_of_ble_eq_true rfl) (by omega) (fun r18 w19 => ?_)
    refine q_iconst eX5_readIf_63 kiconst_1 ?_
    refine q_isub eX5_readIf_64 ?_
    refine q_ltI (fun y20 => ?_)
    refine q_istore_n (lv' := [(3, .int y20), (2, .int y9), (0, .ref 23), (1, .int a1)]) eX5_readIf_65 rfl (by decide) rfl ?_
    refine q_aload_n 2 eX5_readIf_66 rfl rfl ?_
    refine q_getR eX5_readIf_67 fl_5_29 tC_23 rfl ?_
    refine q_ck (fun g21 => ?_)
    refine q_iload_n 1 eX5_readIf_70 rfl rfl ?_
    refine q_callVV (As := [.int y9]) (st := []) eX5_readIf_71 cv_5_161 (kX4_aimHere X l (w19.2.1 23 11) y9 w19) g21 rfl (by decide) rfl rfl (Nat.le_of_ble_eq_true rfl) (by omega) (fun r22 w23 => ?_)
    refine q_iload_n 0 eX5_readIf_74 rfl rfl ?_
    refine q_istore_n (lv' := [(2, .int y20), (3, .int y20), (0, .ref 23), (1, .int a1)]) eX5_readIf_75 rfl (by decide) rfl ?_
    refine q_aload_n 2 eX5_readIf_76 rfl rfl ?_
    refine q_iload_n 3 eX5_readIf_77 rfl rfl ?_
    refine q_iconst eX5_readIf_78 kiconst_1 ?_
    refine q_iadd eX5_readIf_79 ?_
    refine q_callVV (As := [.int (a1 + 1)]) (st := []) eX5_readIf_80 cv_5_100 (hrB (a1 + 1) w23) tC_23 rfl (by decide) rfl rfl (Nat.le_of_ble_eq_true rfl) erB (fun r24 w25 => ?_)
    exact q_sub [2, 0] rfl (jX5_readIf_n83 X l d hd0 rB drB hrB erB y20 w25)
  · exact q_sub [1, 0] rfl (jX5_readIf_n83 X l d hd0 rB drB hrB erB y9 w11)
def fX5_readDeed_n34 (rF : Int32 → Int32 → q_W → Option (Unit × q_W)) (rI : Int32 → q_W → Option (Unit × q_W)) (x1 : Int32) (x2 : Int32) (x3 : Int32) (w : q_W) : Option (Unit × q_W) :=
  if cC (w.2.1 23 11) = 4 then
  q_b (fX4_add_ (w.2.1 23 11) 1 x3 w) fun r2 w3 =>
  q_b (fX5_take x2 w3) fun r4 w5 =>
  if x2 = 9 then
    q_b (rF x3 x1 w5) fun r6 w7 =>
    some ((), w7)
  else
    if x2 = 11 then
      q_b (rI x1 w5) fun r8 w9 =>
      some ((), w9)
    else
      if x2 = 13 then
        q_b (fX5_readDo w5) fun r10 w11 =>
        some ((), w11)
      else
        q_b (fX5_readStroke (x2 - 5) w5) fun r12 w13 =>
        some ((), w13)
  else none
set_option maxHeartbeats 4000000 in
set_option maxRecDepth 100000 in
theorem jX5_readDeed_n34 (X : q_X) (l : Launch) (d : Nat) (hd0 : 30 ≤ d) (rF : Int32 → Int32 → q_W → Option (Unit × q_W)) (drF : Nat) (hrF : ∀ a0 a1 w, q_Ct X S_C l mX5_readFor drF q_tV [.ref 23, .int a0, .int a1] w (rF a0 a1 w)) (erF : drF + 1 ≤ d) (rI : Int32 → q_W → Option (Unit × q_W)) (drI : Nat) (hrI : ∀ a0 w, q_Ct X S_C l mX5_readIf drI q_tV [.ref 23, .int a0] w (rI a0 w)) (erI : drI + 1 ≤ d) (x1 : Int32) (x2 : Int32) (x3 : Int32) (w : q_W) : q_J X S_C l mX5_readDeed d q_tV 34 [(0, .ref 23), (1, .int x1), (2, .int x2), (3, .int x3)] [] w (fX5_readDeed_n34 rF rI x1 x2 x3 w) := by
  refine q_aload_n 0 eX5_readDeed_34 rfl rfl ?_
  refine q_getR eX5_readDeed_35 fl_5_29 tC_23 rfl ?_
  refine q_ck (fun g1 => ?_)
  refine q_iconst eX5_readDeed_38 kiconst_1 ?_
  refine q_iload_n 3 eX5_readDeed_39 rfl rfl ?_
  refine q_callVV (As := [.int 1, .int x3]) (st := []) eX5_readDeed_40 cv_5_133 (kX4_add_ X l (w.2.1 23 11) 1 x3 w) g1 rfl (by decide) rfl rfl (Nat.le_of_ble_eq_true rfl) (by omega) (fun r2 w3 => ?_)
  refine q_aload_n 0 eX5_readDeed_43 rfl rfl ?_
  refine q_iload_n 2 eX5_readDeed_44 rfl rfl ?_
  refine q_callVV (As := [.int x2]) (st := []) eX5_readDeed_45 cv_5_80 (kX5_take X l x2 w3) tC_23 rfl (by decide) rfl rfl (Nat.le_of_ble_eq_true rfl) (by omega) (fun r4 w5 => ?_)
  refine q_iload_n 2 eX5_readDeed_48 rfl rfl ?_
  refine q_bipush eX5_readDeed_49 kbipush_9 ?_
  refine q_icmp_ne (tgt := 63) eX5_readDeed_51 (by decide) (fun _ => ?_) (fun _ => ?_)
  · refine q_aload_n 0 eX5_readDeed_54 rfl rfl ?_
    refine q_iload_n 3 eX5_readDeed_55 rfl rfl ?_
    refine q_iload_n 1 eX5_readDeed_56 rfl rfl ?_
    refine q_callVV (As := [.int x3, .int x1]) (st := []) eX5_readDeed_57 cv_5_135 (hrF x3 x1 w5) tC_23 rfl (by decide) rfl rfl (Nat.le_of_ble_eq_true rfl) erF (fun r6 w7 => ?_)
    refine q_goto (tgt := 97) eX5_readDeed_60 (by decide) ?_
    exact q_return eX5_readDeed_97 rfl
  · refine q_iload_n 2 eX5_readDeed_63 rfl rfl ?_
    refine q_bipush eX5_readDeed_64 kbipush_11 ?_
    refine q_icmp_ne (tgt := 77) eX5_readDeed_66 (by decide) (fun _ => ?_) (fun _ => ?_)
    · refine q_aload_n 0 eX5_readDeed_69 rfl rfl ?_
      refine q_iload_n 1 eX5_readDeed_70 rfl rfl ?_
      refine q_callVV (As := [.int x1]) (st := []) eX5_readDeed_71 cv_5_138 (hrI x1 w5) tC_23 rfl (by decide) rfl rfl (Nat.le_of_ble_eq_true rfl) erI (fun r8 w9 => ?_)
      refine q_goto (tgt := 97) eX5_readDeed_74 (by decide) ?_
      exact q_return eX5_readDeed_97 rfl
    · refine q_iload_n 2 eX5_readDeed_77 rfl rfl ?_
      refine q_bipush eX5_readDeed_78 kbipush_13 ?_
      refine q_icmp_ne (tgt := 90) eX5_readDeed_80 (by decide) (fun _ => ?_) (fun _ => ?_)
      · refine q_aload_n 0 eX5_readDeed_83 rfl rfl ?_
        refine q_callVV (As := []) (st := []) eX5_readDeed_84 cv_5_141 (kX5_readDo X l w5) tC_23 rfl (by decide) rfl rfl (Nat.le_of_ble_eq_true rfl) (by omega) (fun r10 w11 => ?_)
        refine q_goto (tgt := 97) eX5_readDeed_87 (by decide) ?_
        exact q_return eX5_readDeed_97 rfl
      · refine q_aload_n 0 eX5_readDeed_90 rfl rfl ?_
        refine q_iload_n 2 eX5_readDeed_91 rfl rfl ?_
        refine q_iconst eX5_readDeed_92 kiconst_5 ?_
        refine q_isub eX5_readDeed_93 ?_
        refine q_callVV (As := [.int (x2 - 5)]) (st := []) eX5_readDeed_94 cv_5_144 (kX5_readStroke X l (x2 - 5) w5) tC_23 rfl (by decide) rfl rfl (Nat.le_of_ble_eq_true rfl) (by omega) (fun r12 w13 => ?_)
        exact q_return eX5_readDeed_97 rfl
def fX5_readDeed_n28 (rF : Int32 → Int32 → q_W → Option (Unit × q_W)) (rI : Int32 → q_W → Option (Unit × q_W)) (w : q_W) : Option (Unit × q_W) :=
  q_b (fX5_fail 2 w) fun r1 w2 =>
  some ((), w2)
set_option maxHeartbeats 4000000 in
set_option maxRecDepth 100000 in
theorem jX5_readDeed_n28 (X : q_X) (l : Launch) (d : Nat) (hd0 : 30 ≤ d) (rF : Int32 → Int32 → q_W → Option (Unit × q_W)) (drF : Nat) (hrF : ∀ a0 a1 w, q_Ct X S_C l mX5_readFor drF q_tV [.ref 23, .int a0, .int a1] w (rF a0 a1 w)) (erF : drF + 1 ≤ d) (rI : Int32 → q_W → Option (Unit × q_W)) (drI : Nat) (hrI : ∀ a0 w, q_Ct X S_C l mX5_readIf drI q_tV [.ref 23, .int a0] w (rI a0 w)) (erI : drI + 1 ≤ d) (w : q_W) : q_J X S_C l mX5_readDeed d q_tV 28 [(0, .ref 23)] [] w (fX5_readDeed_n28 rF rI w) := by
  refine q_aload_n 0 eX5_readDeed_28 rfl rfl ?_
  refine q_iconst eX5_readDeed_29 kiconst_2 ?_
  refine q_callVV (As := [.int 2]) (st := []) eX5_readDeed_30 cv_5_66 (kX5_fail X l 2 w) tC_23 rfl (by decide) rfl rfl (Nat.le_of_ble_eq_true rfl) (by omega) (fun r1 w2 => ?_)
  exact q_return eX5_readDeed_33 rfl
def fX5_readDeed (rF : Int32 → Int32 → q_W → Option (Unit × q_W)) (rI : Int32 → q_W → Option (Unit × q_W)) (a1 : Int32) (w : q_W) : Option (Unit × q_W) :=
  q_lt (w.1 23 5) fun y1 =>
  q_lt (w.1 23 6) fun y2 =>
  if a1 < 6 then
    fX5_readDeed_n34 rF rI a1 y1 y2 w
  else
    if y1 = 9 then
      fX5_readDeed_n28 rF rI w
    else
      if y1 = 11 then
        fX5_readDeed_n28 rF rI w
      else
        fX5_readDeed_n34 rF rI a1 y1 y2 w
set_option maxHeartbeats 4000000 in
set_option maxRecDepth 100000 in
theorem kX5_readDeed (X : q_X) (l : Launch) (d : Nat) (hd0 : 30 ≤ d) (rF : Int32 → Int32 → q_W → Option (Unit × q_W)) (drF : Nat) (hrF : ∀ a0 a1 w, q_Ct X S_C l mX5_readFor drF q_tV [.ref 23, .int a0, .int a1] w (rF a0 a1 w)) (erF : drF + 1 ≤ d) (rI : Int32 → q_W → Option (Unit × q_W)) (drI : Nat) (hrI : ∀ a0 w, q_Ct X S_C l mX5_readIf drI q_tV [.ref 23, .int a0] w (rI a0 w)) (erI : drI + 1 ≤ d) (a1 : Int32) (w : q_W) : q_Ct X S_C l mX5_readDeed d q_tV [.ref 23, .int a1] w (fX5_readDeed rF rI a1 w) := by
  refine q_intro (lv := [(0, .ref 23), (1, .int a1)]) (by decide +kernel) rfl (Nat.le_of_ble_eq_true rfl) rfl ?_
  refine q_aload_n 0 eX5_readDeed_0 rfl rfl ?_
  refine q_getI eX5_readDeed_1 fl_5_54 tC_23 rfl ?_
  refine q_ltI (fun y1 => ?_)
  refine q_istore_n (lv' := [(2, .int y1), (0, .ref 23), (1, .int a1)]) eX5_readDeed_4 rfl (by decide) rfl ?_
  refine q_aload_n 1 eX5_readDeed_5 rfl rfl ?_
  refine q_getI eX5_readDeed_6 fl_5_60 tC_23 rfl ?_
  refine q_ltI (fun y2 => ?_)
  refine q_istore_n (lv' := [(3, .int y2), (2, .int y1), (0, .ref 23), (1, .int a1)]) eX5_readDeed_9 rfl (by decide) rfl ?_
  refine q_iload_n 3 eX5_readDeed_10 rfl rfl ?_
  refine q_bipush eX5_readDeed_11 kbipush_6 ?_
  refine q_icmp_lt (tgt := 34) eX5_readDeed_13 (by decide) (fun _ => ?_) (fun _ => ?_)
  · exact q_sub [2, 3, 1, 0] rfl (jX5_readDeed_n34 X l d hd0 rF drF hrF erF rI drI hrI erI a1 y1 y2 w)
  · refine q_iload_n 1 eX5_readDeed_16 rfl rfl ?_
    refine q_bipush eX5_readDeed_17 kbipush_9 ?_
    refine q_icmp_eq (tgt := 28) eX5_readDeed_19 (by decide) (fun _ => ?_) (fun _ => ?_)
    · exact q_sub [2] rfl (jX5_readDeed_n28 X l d hd0 rF drF hrF erF rI drI hrI erI w)
    · refine q_iload_n 1 eX5_readDeed_22 rfl rfl ?_
      refine q_bipush eX5_readDeed_23 kbipush_11 ?_
      refine q_icmp_ne (tgt := 34) eX5_readDeed_25 (by decide) (fun _ => ?_) (fun _ => ?_)
      · exact q_sub [2] rfl (jX5_readDeed_n28 X l d hd0 rF drF hrF erF rI drI hrI erI w)
      · exact q_sub [2, 3, 1, 0] rfl (jX5_readDeed_n34 X l d hd0 rF drF hrF erF rI drI hrI erI a1 y1 y2 w)
def fX5_readDeeds_h2 (rD : Int32 → q_W → Option (Unit × q_W)) (rec2 : Int32 → Int32 → q_W → Option (Unit × q_W)) (x1 : Int32) (x2 : Int32) (w : q_W) : Option (Unit × q_W) :=
  if 501 ≤ x2 then
    some ((), w)
  else
    q_b (fX5_startsDeed (w.1 23 5) w) fun r1 w2 =>
    if r1 = 0 then
      some ((), w2)
    else
      q_b (rD x1 w2) fun r3 w4 =>
      q_lt (x2 + 1) fun y5 =>
      rec2 x1 y5 w4
def fX5_readDeeds_l2 (rD : Int32 → q_W → Option (Unit × q_W)) : Int32 → Int32 → q_W → Option (Unit × q_W) := q_it q_N (fX5_readDeeds_h2 rD) (fun _ _ _ => none)
set_option maxHeartbeats 4000000 in
set_option maxRecDepth 100000 in
theorem jX5_readDeeds_h2 (X : q_X) (l : Launch) (d : Nat) (hd0 : 1 ≤ d) (rD : Int32 → q_W → Option (Unit × q_W)) (drD : Nat) (hrD : ∀ a0 w, q_Ct X S_C l mX5_readDeed drD q_tV [.ref 23, .int a0] w (rD a0 w)) (erD : drD + 1 ≤ d) (rec2 : Int32 → Int32 → q_W → Option (Unit × q_W)) (hr2 : ∀ x1 x2 w, q_J X S_C l mX5_readDeeds d q_tV 2 [(0, .ref 23), (1, .int x1), (2, .int x2)] [] w (rec2 x1 x2 w)) : ∀ x1 x2 w, q_J X S_C l mX5_readDeeds d q_tV 2 [(0, .ref 23), (1, .int x1), (2, .int x2)] [] w (fX5_readDeeds_h2 rD rec2 x1 x2 w) := by
  intro x1 x2 w
  refine q_iload_n 2 eX5_readDeeds_2 rfl rfl ?_
  refine q_sipush eX5_readDeeds_3 ksipush_501 ?_
  refine q_icmp_ge (tgt := 30) eX5_readDeeds_6 (by decide) (fun _ => ?_) (fun _ => ?_)
  · exact q_return eX5_readDeeds_30 rfl
  · refine q_aload_n 0 eX5_readDeeds_9 rfl rfl ?_
    refine q_getI eX5_readDeeds_10 fl_5_54 tC_23 rfl ?_
    refine q_callSI (As := [.int (w.1 23 5)]) (st := []) eX5_readDeeds_13 cv_5_126 (kX5_startsDeed X l (w.1 23 5) w) rfl rfl (Nat.le_of_ble_eq_true rfl) (by omega) (fun r1 w2 => ?_)
    refine q_if_eq (tgt := 30) eX5_readDeeds_16 (by decide) (fun _ => ?_) (fun _ => ?_)
    · exact q_return eX5_readDeeds_30 rfl
    · refine q_aload_n 0 eX5_readDeeds_19 rfl rfl ?_
      refine q_iload_n 1 eX5_readDeeds_20 rfl rfl ?_
      refine q_callVV (As := [.int x1]) (st := []) eX5_readDeeds_21 cv_5_130 (hrD x1 w2) tC_23 rfl (by decide) rfl rfl (Nat.le_of_ble_eq_true rfl) erD (fun r3 w4 => ?_)
      refine q_ltE (fun y5 hy5 => ?_)
      refine q_iinc (v := y5) (lv' := [(2, .int y5), (0, .ref 23), (1, .int x1)]) 2 eX5_readDeeds_24 rfl hy5 (by decide) rfl ?_
      refine q_goto (tgt := 2) eX5_readDeeds_27 (by decide) ?_
      exact q_sub [1, 2, 0] rfl (hr2 x1 y5 w4)
set_option maxHeartbeats 4000000 in
set_option maxRecDepth 100000 in
theorem jX5_readDeeds_l2 (X : q_X) (l : Launch) (d : Nat) (hd0 : 1 ≤ d) (rD : Int32 → q_W → Option (Unit × q_W)) (drD : Nat) (hrD : ∀ a0 w, q_Ct X S_C l mX5_readDeed drD q_tV [.ref 23, .int a0] w (rD a0 w)) (erD : drD + 1 ≤ d) : ∀ x1 x2 w, q_J X S_C l mX5_readDeeds d q_tV 2 [(0, .ref 23), (1, .int x1), (2, .int x2)] [] w (fX5_readDeeds_l2 rD x1 x2 w) := by
  exact q_it_ind (fun rc => ∀ x1 x2 w, q_J X S_C l mX5_readDeeds d q_tV 2 [(0, .ref 23), (1, .int x1), (2, .int x2)] [] w (rc x1 x2 w)) _ _ (fun _ _ _ => q_none) (fun rc hrc => jX5_readDeeds_h2 X l d hd0 rD drD hrD erD rc hrc) q_N
def fX5_readDeeds (rD : Int32 → q_W → Option (Unit × q_W)) (a1 : Int32) (w : q_W) : Option (Unit × q_W) :=
  fX5_readDeeds_l2 rD a1 0 w
set_option maxHeartbeats 4000000 in
set_option maxRecDepth 100000 in
theorem kX5_readDeeds (X : q_X) (l : Launch) (d : Nat) (hd0 : 1 ≤ d) (rD : Int32 → q_W → Option (Unit × q_W)) (drD : Nat) (hrD : ∀ a0 w, q_Ct X S_C l mX5_readDeed drD q_tV [.ref 23, .int a0] w (rD a0 w)) (erD : drD + 1 ≤ d) (a1 : Int32) (w : q_W) : q_Ct X S_C l mX5_readDeeds d q_tV [.ref 23, .int a1] w (fX5_readDeeds rD a1 w) := by
  refine q_intro (lv := [(0, .ref 23), (1, .int a1)]) (by decide +kernel) rfl (Nat.le_of_ble_eq_true rfl) rfl ?_
  refine q_iconst eX5_readDeeds_0 kiconst_0 ?_
  refine q_istore_n (lv' := [(2, .int 0), (0, .ref 23), (1, .int a1)]) eX5_readDeeds_1 rfl (by decide) rfl ?_
  exact q_sub [1, 2, 0] rfl (jX5_readDeeds_l2 X l d hd0 rD drD hrD erD a1 0 w)
def q_deeds : Nat → Int32 → q_W → Option (Unit × q_W)
  | 0 => fun _ _ => none
  | n + 1 => fX5_readDeeds (fX5_readDeed (fX5_readFor (q_deeds n)) (fX5_readIf (q_deeds n)))
def q_forN (n : Nat) : Int32 → Int32 → q_W → Option (Unit × q_W) := fX5_readFor (q_deeds n)
def q_ifN (n : Nat) : Int32 → q_W → Option (Unit × q_W) := fX5_readIf (q_deeds n)
def q_deedN (n : Nat) : Int32 → q_W → Option (Unit × q_W) := fX5_readDeed (q_forN n) (q_ifN n)
def q_deedsT : Int32 → q_W → Option (Unit × q_W) := q_deeds 8
theorem k_deeds (X : q_X) (l : Launch) : ∀ (n : Nat) (a0 : Int32) (w : q_W), q_Ct X S_C l mX5_readDeeds (30 + 3 * n) q_tV [.ref 23, .int a0] w (q_deeds n a0 w)
  | 0 => fun a0 w r w' h => by cases h
  | n + 1 => fun a0 w => kX5_readDeeds X l (30 + 3 * (n + 1)) (by omega) (q_deedN n) (30 + 3 * n + 2) (fun a w => kX5_readDeed X l (30 + 3 * n + 2) (by omega) (q_forN n) (30 + 3 * n + 1) (fun a b w => kX5_readFor X l (30 + 3 * n + 1) (by omega) (q_deeds n) (30 + 3 * n) (k_deeds X l n) (by omega) a b w) (by omega) (q_ifN n) (30 + 3 * n + 1) (fun a w => kX5_readIf X l (30 + 3 * n + 1) (by omega) (q_deeds n) (30 + 3 * n) (k_deeds X l n) (by omega) a w) (by omega) a w) (by omega) a0 w
theorem k_deedsT (X : q_X) (l : Launch) (a : Int32) (w : q_W) : q_Ct X S_C l mX5_readDeeds 54 q_tV [.ref 23, .int a] w (q_deedsT a w) := k_deeds X l 8 a w
def fX5_readReach (w : q_W) : Option (Unit × q_W) :=
  q_b (fX7_saysAt (w.1 23 4) w) fun r1 w2 =>
  q_b (fX5_noteIfReached r1 w2) fun r3 w4 =>
  q_b (fX5_take 1 w4) fun r5 w6 =>
  q_b (fX5_bringInReach r1 w6) fun r7 w8 =>
  some ((), w8)
set_option maxHeartbeats 4000000 in
set_option maxRecDepth 100000 in
theorem kX5_readReach (X : q_X) (l : Launch) (w : q_W) : q_Ct X S_C l mX5_readReach 2 q_tV [.ref 23] w (fX5_readReach w) := by
  refine q_intro (lv := [(0, .ref 23)]) (by decide +kernel) rfl (Nat.le_of_ble_eq_true rfl) rfl ?_
  refine q_aload_n 0 eX5_readReach_0 rfl rfl ?_
  refine q_getG (v := 24) eX5_readReach_1 fl_5_12 tC_23 rfl gC_23_0 ?_
  refine q_aload_n 0 eX5_readReach_4 rfl rfl ?_
  refine q_getI eX5_readReach_5 fl_5_47 tC_23 rfl ?_
  refine q_callVL (As := [.int (w.1 23 4)]) (st := []) eX5_readReach_8 cv_5_83 (kX7_saysAt X l (w.1 23 4) w) tC_24 rfl (by decide) rfl rfl (Nat.le_of_ble_eq_true rfl) (by decide) (fun r1 w2 => ?_)
  refine q_lstore_n (lv' := [(1, .long r1), (0, .ref 23)]) eX5_readReach_11 rfl (by decide) rfl ?_
  refine q_aload_n 1 eX5_readReach_12 rfl rfl ?_
  refine q_lload_n 0 eX5_readReach_13 rfl rfl ?_
  refine q_callVV (As := [.long r1]) (st := []) eX5_readReach_14 cv_5_117 (kX5_noteIfReached X l r1 w2) tC_23 rfl (by decide) rfl rfl (Nat.le_of_ble_eq_true rfl) (by decide) (fun r3 w4 => ?_)
  refine q_aload_n 1 eX5_readReach_17 rfl rfl ?_
  refine q_iconst eX5_readReach_18 kiconst_1 ?_
  refine q_callVV (As := [.int 1]) (st := []) eX5_readReach_19 cv_5_80 (kX5_take X l 1 w4) tC_23 rfl (by decide) rfl rfl (Nat.le_of_ble_eq_true rfl) (by decide) (fun r5 w6 => ?_)
  refine q_aload_n 1 eX5_readReach_22 rfl rfl ?_
  refine q_lload_n 0 eX5_readReach_23 rfl rfl ?_
  refine q_callVV (As := [.long r1]) (st := []) eX5_readReach_24 cv_5_120 (kX5_bringInReach X l r1 w6) tC_23 rfl (by decide) rfl rfl (Nat.le_of_ble_eq_true rfl) (by decide) (fun r7 w8 => ?_)
  exact q_return eX5_readReach_27 rfl
def fX5_readPattern_n92 (w : q_W) : Option (Unit × q_W) :=
  if cC (w.2.1 23 11) = 4 then
  q_b (fX4_open (w.2.1 23 11) (w.1 23 3) w) fun r2 w3 =>
  q_b (q_deedsT 0 w3) fun r4 w5 =>
  q_b (fX5_take 4 w5) fun r6 w7 =>
  if cC (w7.2.1 23 11) = 4 then
  q_b (fX4_add (w7.2.1 23 11) 0 w7) fun r9 w10 =>
  if cC (w10.2.1 23 11) = 4 then
  q_b (fX4_close (w10.2.1 23 11) w10) fun r12 w13 =>
  some ((), w13)
  else none
  else none
  else none
set_option maxHeartbeats 4000000 in
set_option maxRecDepth 100000 in
theorem jX5_readPattern_n92 (X : q_X) (l : Launch) (w : q_W) : q_J X S_C l mX5_readPattern 55 q_tV 92 [(0, .ref 23)] [] w (fX5_readPattern_n92 w) := by
  refine q_aload_n 0 eX5_readPattern_92 rfl rfl ?_
  refine q_getR eX5_readPattern_93 fl_5_29 tC_23 rfl ?_
  refine q_ck (fun g1 => ?_)
  refine q_aload_n 0 eX5_readPattern_96 rfl rfl ?_
  refine q_getI eX5_readPattern_97 fl_5_91 tC_23 rfl ?_
  refine q_callVV (As := [.int (w.1 23 3)]) (st := []) eX5_readPattern_100 cv_5_97 (kX4_open X l (w.2.1 23 11) (w.1 23 3) w) g1 rfl (by decide) rfl rfl (Nat.le_of_ble_eq_true rfl) (by decide) (fun r2 w3 => ?_)
  refine q_aload_n 0 eX5_readPattern_103 rfl rfl ?_
  refine q_iconst eX5_readPattern_104 kiconst_0 ?_
  refine q_callVV (As := [.int 0]) (st := []) eX5_readPattern_105 cv_5_100 (k_deedsT X l 0 w3) tC_23 rfl (by decide) rfl rfl (Nat.le_of_ble_eq_true rfl) (by decide) (fun r4 w5 => ?_)
  refine q_aload_n 0 eX5_readPattern_108 rfl rfl ?_
  refine q_iconst eX5_readPattern_109 kiconst_4 ?_
  refine q_callVV (As := [.int 4]) (st := []) eX5_readPattern_110 cv_5_80 (kX5_take X l 4 w5) tC_23 rfl (by decide) rfl rfl (Nat.le_of_ble_eq_true rfl) (by decide) (fun r6 w7 => ?_)
  refine q_aload_n 0 eX5_readPattern_113 rfl rfl ?_
  refine q_getR eX5_readPattern_114 fl_5_29 tC_23 rfl ?_
  refine q_ck (fun g8 => ?_)
  refine q_iconst eX5_readPattern_117 kiconst_0 ?_
  refine q_callVV (As := [.int 0]) (st := []) eX5_readPattern_118 cv_5_103 (kX4_add X l (w7.2.1 23 11) 0 w7) g8 rfl (by decide) rfl rfl (Nat.le_of_ble_eq_true rfl) (by decide) (fun r9 w10 => ?_)
  refine q_aload_n 0 eX5_readPattern_121 rfl rfl ?_
  refine q_getR eX5_readPattern_122 fl_5_29 tC_23 rfl ?_
  refine q_ck (fun g11 => ?_)
  refine q_callVV (As := []) (st := []) eX5_readPattern_125 cv_5_106 (kX4_close X l (w10.2.1 23 11) w10) g11 rfl (by decide) rfl rfl (Nat.le_of_ble_eq_true rfl) (by decide) (fun r12 w13 => ?_)
  exact q_return eX5_readPattern_128 rfl
def fX5_readPattern_n86 (w : q_W) : Option (Unit × q_W) :=
  q_b (fX5_take 41 w) fun r1 w2 =>
  fX5_readPattern_n92 w2
set_option maxHeartbeats 4000000 in
set_option maxRecDepth 100000 in
theorem jX5_readPattern_n86 (X : q_X) (l : Launch) (w : q_W) : q_J X S_C l mX5_readPattern 55 q_tV 86 [(0, .ref 23)] [] w (fX5_readPattern_n86 w) := by
  refine q_aload_n 0 eX5_readPattern_86 rfl rfl ?_
  refine q_bipush eX5_readPattern_87 kbipush_41 ?_
  refine q_callVV (As := [.int 41]) (st := []) eX5_readPattern_89 cv_5_80 (kX5_take X l 41 w) tC_23 rfl (by decide) rfl rfl (Nat.le_of_ble_eq_true rfl) (by decide) (fun r1 w2 => ?_)
  exact q_sub [0] rfl (jX5_readPattern_n92 X l w2)
def fX5_readPattern (w : q_W) : Option (Unit × q_W) :=
  if cC (w.2.1 23 11) = 4 then
  q_b (fX4_size (w.2.1 23 11) w) fun r2 w3 =>
  if r2 < 8 then
    q_b (fX5_take 3 w3) fun r4 w5 =>
    q_b (fX7_saysAt (w5.1 23 4) w5) fun r6 w7 =>
    q_b (fX5_namePattern r6 w7) fun r8 w9 =>
    q_b (fX5_take 1 w9) fun r10 w11 =>
    q_lt (q_sI w11 23 3 0) fun w12 =>
    if (w12.1 23 5) = 40 then
      q_b (fX5_take 40 w12) fun r13 w14 =>
      q_b (fX5_readReach w14) fun r15 w16 =>
      if (w16.1 23 5) = 44 then
        q_b (fX5_take 44 w16) fun r17 w18 =>
        q_b (fX5_readReach w18) fun r19 w20 =>
        fX5_readPattern_n86 w20
      else
        fX5_readPattern_n86 w16
    else
      fX5_readPattern_n92 w12
  else
    q_b (fX5_fail 2 w3) fun r21 w22 =>
    some ((), w22)
  else none
set_option maxHeartbeats 4000000 in
set_option maxRecDepth 100000 in
theorem kX5_readPattern (X : q_X) (l : Launch) (w : q_W) : q_Ct X S_C l mX5_readPattern 55 q_tV [.ref 23] w (fX5_readPattern w) := by
  refine q_intro (lv := [(0, .ref 23)]) (by decide +kernel) rfl (Nat.le_of_ble_eq_true rfl) rfl ?_
  refine q_aload_n 0 eX5_readPattern_0 rfl rfl ?_
  refine q_getR eX5_readPattern_1 fl_5_29 tC_23 rfl ?_
  refine q_ck (fun g1 => ?_)
  refine q_callVI (As := []) (st := []) eX5_readPattern_4 cv_5_76 (kX4_size X l (w.2.1 23 11) w) g1 rfl (by decide) rfl rfl (Nat.le_of_ble_eq_true rfl) (by decide) (fun r2 w3 => ?_)
  refine q_bipush eX5_readPattern_7 kbipush_8 ?_
  refine q_icmp_lt (tgt := 18) eX5_readPattern_9 (by decide) (fun _ => ?_) (fun _ => ?_)
  · refine q_aload_n 0 eX5_readPattern_18 rfl rfl ?_
    refine q_iconst eX5_readPattern_19 kiconst_3 ?_
    refine q_callVV (As := [.int 3]) (st := []) eX5_readPattern_20 cv_5_80 (kX5_take X l 3 w3) tC_23 rfl (by decide) rfl rfl (Nat.le_of_ble_eq_true rfl) (by decide) (fun r4 w5 => ?_)
    refine q_aload_n 0 eX5_readPattern_23 rfl rfl ?_
    refine q_aload_n 0 eX5_readPattern_24 rfl rfl ?_
    refine q_getG (v := 24) eX5_readPattern_25 fl_5_12 tC_23 rfl gC_23_0 ?_
    refine q_aload_n 0 eX5_readPattern_28 rfl rfl ?_
    refine q_getI eX5_readPattern_29 fl_5_47 tC_23 rfl ?_
    refine q_callVL (As := [.int (w5.1 23 4)]) (st := [.ref 23]) eX5_readPattern_32 cv_5_83 (kX7_saysAt X l (w5.1 23 4) w5) tC_24 rfl (by decide) rfl rfl (Nat.le_of_ble_eq_true rfl) (by decide) (fun r6 w7 => ?_)
    refine q_callVV (As := [.long r6]) (st := []) eX5_readPattern_35 cv_5_87 (kX5_namePattern X l r6 w7) tC_23 rfl (by decide) rfl rfl (Nat.le_of_ble_eq_true rfl) (by decide) (fun r8 w9 => ?_)
    refine q_aload_n 0 eX5_readPattern_38 rfl rfl ?_
    refine q_iconst eX5_readPattern_39 kiconst_1 ?_
    refine q_callVV (As := [.int 1]) (st := []) eX5_readPattern_40 cv_5_80 (kX5_take X l 1 w9) tC_23 rfl (by decide) rfl rfl (Nat.le_of_ble_eq_true rfl) (by decide) (fun r10 w11 => ?_)
    refine q_aload_n 0 eX5_readPattern_43 rfl rfl ?_
    refine q_iconst eX5_readPattern_44 kiconst_0 ?_
    refine q_putI eX5_readPattern_45 fp_5_91 tC_23 rfl ⟨rfl, rfl⟩ ?_
    refine q_ltW (fun w12 => ?_)
    refine q_aload_n 0 eX5_readPattern_48 rfl rfl ?_
    refine q_getI eX5_readPattern_49 fl_5_54 tC_23 rfl ?_
    refine q_bipush eX5_readPattern_52 kbipush_40 ?_
    refine q_icmp_ne (tgt := 92) eX5_readPattern_54 (by decide) (fun _ => ?_) (fun _ => ?_)
    · refine q_aload_n 0 eX5_readPattern_57 rfl rfl ?_
      refine q_bipush eX5_readPattern_58 kbipush_40 ?_
      refine q_callVV (As := [.int 40]) (st := []) eX5_readPattern_60 cv_5_80 (kX5_take X l 40 w12) tC_23 rfl (by decide) rfl rfl (Nat.le_of_ble_eq_true rfl) (by decide) (fun r13 w14 => ?_)
      refine q_aload_n 0 eX5_readPattern_63 rfl rfl ?_
      refine q_callVV (As := []) (st := []) eX5_readPattern_64 cv_5_94 (kX5_readReach X l w14) tC_23 rfl (by decide) rfl rfl (Nat.le_of_ble_eq_true rfl) (by decide) (fun r15 w16 => ?_)
      refine q_aload_n 0 eX5_readPattern_67 rfl rfl ?_
      refine q_getI eX5_readPattern_68 fl_5_54 tC_23 rfl ?_
      refine q_bipush eX5_readPattern_71 kbipush_44 ?_
      refine q_icmp_ne (tgt := 86) eX5_readPattern_73 (by decide) (fun _ => ?_) (fun _ => ?_)
      · refine q_aload_n 0 eX5_readPattern_76 rfl rfl ?_
        refine q_bipush eX5_readPattern_77 kbipush_44 ?_
        refine q_callVV (As := [.int 44]) (st := []) eX5_readPattern_79 cv_5_80 (kX5_take X l 44 w16) tC_23 rfl (by decide) rfl rfl (Nat.le_of_ble_eq_true rfl) (by decide) (fun r17 w18 => ?_)
        refine q_aload_n 0 eX5_readPattern_82 rfl rfl ?_
        refine q_callVV (As := []) (st := []) eX5_readPattern_83 cv_5_94 (kX5_readReach X l w18) tC_23 rfl (by decide) rfl rfl (Nat.le_of_ble_eq_true rfl) (by decide) (fun r19 w20 => ?_)
        exact q_sub [0] rfl (jX5_readPattern_n86 X l w20)
      · exact q_sub [0] rfl (jX5_readPattern_n86 X l w16)
    · exact q_sub [0] rfl (jX5_readPattern_n92 X l w12)
  · refine q_aload_n 0 eX5_readPattern_12 rfl rfl ?_
    refine q_iconst eX5_readPattern_13 kiconst_2 ?_
    refine q_callVV (As := [.int 2]) (st := []) eX5_readPattern_14 cv_5_66 (kX5_fail X l 2 w3) tC_23 rfl (by decide) rfl rfl (Nat.le_of_ble_eq_true rfl) (by decide) (fun r21 w22 => ?_)
    exact q_return eX5_readPattern_17 rfl
def fX7_isDigit (a0 : Int32) (w : q_W) : Option (Int32 × q_W) :=
  if a0 < 48 then
    some (0, w)
  else
    if 57 < a0 then
      some (0, w)
    else
      some (1, w)
set_option maxHeartbeats 4000000 in
set_option maxRecDepth 100000 in
theorem kX7_isDigit (X : q_X) (l : Launch) (a0 : Int32) (w : q_W) : q_Ct X S_C l mX7_isDigit 0 q_tI [.int a0] w (fX7_isDigit a0 w) := by
  refine q_intro (lv := [(0, .int a0)]) (by decide +kernel) rfl (Nat.le_of_ble_eq_true rfl) rfl ?_
  refine q_iload_n 0 eX7_isDigit_0 rfl rfl ?_
  refine q_bipush eX7_isDigit_1 kbipush_48 ?_
  refine q_icmp_lt (tgt := 16) eX7_isDigit_3 (by decide) (fun _ => ?_) (fun _ => ?_)
  · refine q_iconst eX7_isDigit_16 kiconst_0 ?_
    exact q_zret eX7_isDigit_17 rfl rfl
  · refine q_iload_n 0 eX7_isDigit_6 rfl rfl ?_
    refine q_bipush eX7_isDigit_7 kbipush_57 ?_
    refine q_icmp_gt (tgt := 16) eX7_isDigit_9 (by decide) (fun _ => ?_) (fun _ => ?_)
    · refine q_iconst eX7_isDigit_16 kiconst_0 ?_
      exact q_zret eX7_isDigit_17 rfl rfl
    · refine q_iconst eX7_isDigit_12 kiconst_1 ?_
      refine q_goto (tgt := 17) eX7_isDigit_13 (by decide) ?_
      exact q_zret eX7_isDigit_17 rfl rfl
def fX7_isLetter (a0 : Int32) (w : q_W) : Option (Int32 × q_W) :=
  if a0 < 97 then
    some (0, w)
  else
    if 122 < a0 then
      some (0, w)
    else
      some (1, w)
set_option maxHeartbeats 4000000 in
set_option maxRecDepth 100000 in
theorem kX7_isLetter (X : q_X) (l : Launch) (a0 : Int32) (w : q_W) : q_Ct X S_C l mX7_isLetter 0 q_tI [.int a0] w (fX7_isLetter a0 w) := by
  refine q_intro (lv := [(0, .int a0)]) (by decide +kernel) rfl (Nat.le_of_ble_eq_true rfl) rfl ?_
  refine q_iload_n 0 eX7_isLetter_0 rfl rfl ?_
  refine q_bipush eX7_isLetter_1 kbipush_97 ?_
  refine q_icmp_lt (tgt := 16) eX7_isLetter_3 (by decide) (fun _ => ?_) (fun _ => ?_)
  · refine q_iconst eX7_isLetter_16 kiconst_0 ?_
    exact q_zret eX7_isLetter_17 rfl rfl
  · refine q_iload_n 0 eX7_isLetter_6 rfl rfl ?_
    refine q_bipush eX7_isLetter_7 kbipush_122 ?_
    refine q_icmp_gt (tgt := 16) eX7_isLetter_9 (by decide) (fun _ => ?_) (fun _ => ?_)
    · refine q_iconst eX7_isLetter_16 kiconst_0 ?_
      exact q_zret eX7_isLetter_17 rfl rfl
    · refine q_iconst eX7_isLetter_12 kiconst_1 ?_
      refine q_goto (tgt := 17) eX7_isLetter_13 (by decide) ?_
      exact q_zret eX7_isLetter_17 rfl rfl
def fX9_byteAt (a1 : Int32) (w : q_W) : Option (Int32 × q_W) :=
  if a1 < 0 then
    some ((-1), w)
  else
    if (w.1 1 1) ≤ a1 then
      some ((-1), w)
    else
      if 2000 ≤ a1 then
        some ((-1), w)
      else
        if q_inb a1 2000 then
        some (((w.1 2 (q_ix a1)) &&& 255), w)
        else none
set_option maxHeartbeats 4000000 in
set_option maxRecDepth 100000 in
theorem kX9_byteAt (X : q_X) (l : Launch) (a1 : Int32) (w : q_W) : q_Ct X S_C l mX9_byteAt 0 q_tI [.ref 1, .int a1] w (fX9_byteAt a1 w) := by
  refine q_intro (lv := [(0, .ref 1), (1, .int a1)]) (by decide +kernel) rfl (Nat.le_of_ble_eq_true rfl) rfl ?_
  refine q_iload_n 1 eX9_byteAt_0 rfl rfl ?_
  refine q_if_lt (tgt := 32) eX9_byteAt_1 (by decide) (fun _ => ?_) (fun _ => ?_)
  · refine q_iconst eX9_byteAt_32 kiconst_m1 ?_
    exact q_ireturn eX9_byteAt_33 rfl
  · refine q_iload_n 1 eX9_byteAt_4 rfl rfl ?_
    refine q_aload_n 0 eX9_byteAt_5 rfl rfl ?_
    refine q_getI eX9_byteAt_6 fl_9_15 tC_1 rfl ?_
    refine q_icmp_ge (tgt := 32) eX9_byteAt_9 (by decide) (fun _ => ?_) (fun _ => ?_)
    · refine q_iconst eX9_byteAt_32 kiconst_m1 ?_
      exact q_ireturn eX9_byteAt_33 rfl
    · refine q_iload_n 1 eX9_byteAt_12 rfl rfl ?_
      refine q_sipush eX9_byteAt_13 ksipush_2000 ?_
      refine q_icmp_ge (tgt := 32) eX9_byteAt_16 (by decide) (fun _ => ?_) (fun _ => ?_)
      · refine q_iconst eX9_byteAt_32 kiconst_m1 ?_
        exact q_ireturn eX9_byteAt_33 rfl
      · refine q_aload_n 0 eX9_byteAt_19 rfl rfl ?_
        refine q_getG (v := 2) eX9_byteAt_20 fl_9_11 tC_1 rfl gC_1_0 ?_
        refine q_iload_n 1 eX9_byteAt_23 rfl rfl ?_
        refine q_bald eX9_byteAt_24 tC_2 nC_2 ?_
        refine q_sipush eX9_byteAt_25 ksipush_255 ?_
        refine q_iand eX9_byteAt_28 ?_
        refine q_goto (tgt := 33) eX9_byteAt_29 (by decide) ?_
        exact q_ireturn eX9_byteAt_33 rfl
