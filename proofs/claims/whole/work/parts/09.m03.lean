/-! methods, printed by program: X3_doEach X3_holdsTogether X3_keepFound X3_pickMembers X3_setMembers X3_seekRow X4_clear X4_open X4_close X4_here X4_add X4_add_ X4_add__ X4_aimHere X5_fail X5_note X5_patternOf X5_namePattern X5_bringInReach X5_reachOf X5_noteIfReached X7_kindAt X7_startAt X5_take X7_saysAt X5_readUnit -/
def fX3_doEach_n105 (q1 : Nat) (rec10 : Int32 → q_W → Option (Unit × q_W)) (x2 : Int32) (s0 : Int32) (s1 : Int32) (w : q_W) : Option (Unit × q_W) :=
  if q_inb s1 8 then
  q_lt (q_sI w 39 (q_ix s1) s0) fun w1 =>
  q_b (fX1_deedsDone w1) fun r2 w3 =>
  if q_inb x2 8 then
  q_lt (q_sI w3 40 (q_ix x2) r2) fun w4 =>
  q_lt (x2 + 1) fun y5 =>
  rec10 y5 w4
  else none
  else none
set_option maxHeartbeats 4000000 in
set_option maxRecDepth 100000 in
theorem jX3_doEach_n105 (X : q_X) (l : Launch) (q1 : Nat) (h1 : cC q1 = 4) (rec10 : Int32 → q_W → Option (Unit × q_W)) (hr10 : ∀ x2 w, q_J X S_C l mX3_doEach 5 q_tV 10 [(0, .ref 37), (1, .ref q1), (2, .int x2)] [] w (rec10 x2 w)) (x2 : Int32) (s0 : Int32) (s1 : Int32) (w : q_W) : q_J X S_C l mX3_doEach 5 q_tV 105 [(0, .ref 37), (1, .ref q1), (2, .int x2)] [.int s0, .int s1, .ref 39] w (fX3_doEach_n105 q1 rec10 x2 s0 s1 w) := by
  refine q_iast eX3_doEach_105 tC_39 nC_39 ?_
  refine q_ltW (fun w1 => ?_)
  refine q_aload_n 0 eX3_doEach_106 rfl rfl ?_
  refine q_getG (v := 40) eX3_doEach_107 fl_3_20 tC_37 rfl gC_37_6 ?_
  refine q_iload_n 2 eX3_doEach_110 rfl rfl ?_
  refine q_aload_n 0 eX3_doEach_111 rfl rfl ?_
  refine q_getG (v := 31) eX3_doEach_112 fl_3_29 tC_37 rfl gC_37_0 ?_
  refine q_callVI (As := []) (st := [.int x2, .ref 40]) eX3_doEach_115 cv_3_122 (kX1_deedsDone X l w1) tC_31 rfl (by decide) rfl rfl (Nat.le_of_ble_eq_true rfl) (by decide) (fun r2 w3 => ?_)
  refine q_iast eX3_doEach_118 tC_40 nC_40 ?_
  refine q_ltW (fun w4 => ?_)
  refine q_ltE (fun y5 hy5 => ?_)
  refine q_iinc (v := y5) (lv' := [(2, .int y5), (0, .ref 37), (1, .ref q1)]) 2 eX3_doEach_119 rfl hy5 (by decide) rfl ?_
  refine q_goto (tgt := 10) eX3_doEach_122 (by decide) ?_
  exact q_sub [1, 2, 0] rfl (hr10 y5 w4)
def fX3_doEach_n77 (q1 : Nat) (rec10 : Int32 → q_W → Option (Unit × q_W)) (x2 : Int32) (s0 : Int32) (w : q_W) : Option (Unit × q_W) :=
  if s0 = 0 then
    fX3_doEach_n105 q1 rec10 x2 (-1) x2 w
  else
    q_b (fX6_size 9 w) fun r1 w2 =>
    if q_inb x2 8 then
    fX3_doEach_n105 q1 rec10 x2 (r1 - (w2.1 38 (q_ix x2))) x2 w2
    else none
set_option maxHeartbeats 4000000 in
set_option maxRecDepth 100000 in
theorem jX3_doEach_n77 (X : q_X) (l : Launch) (q1 : Nat) (h1 : cC q1 = 4) (rec10 : Int32 → q_W → Option (Unit × q_W)) (hr10 : ∀ x2 w, q_J X S_C l mX3_doEach 5 q_tV 10 [(0, .ref 37), (1, .ref q1), (2, .int x2)] [] w (rec10 x2 w)) (x2 : Int32) (s0 : Int32) (w : q_W) : q_J X S_C l mX3_doEach 5 q_tV 77 [(0, .ref 37), (1, .ref q1), (2, .int x2)] [.int s0] w (fX3_doEach_n77 q1 rec10 x2 s0 w) := by
  refine q_istore_n (lv' := [(3, .int s0), (0, .ref 37), (1, .ref q1), (2, .int x2)]) eX3_doEach_77 rfl (by decide) rfl ?_
  refine q_aload_n 1 eX3_doEach_78 rfl rfl ?_
  refine q_getG (v := 39) eX3_doEach_79 fl_3_17 tC_37 rfl gC_37_5 ?_
  refine q_iload_n 3 eX3_doEach_82 rfl rfl ?_
  refine q_iload_n 0 eX3_doEach_83 rfl rfl ?_
  refine q_if_eq (tgt := 104) eX3_doEach_84 (by decide) (fun _ => ?_) (fun _ => ?_)
  · refine q_iconst eX3_doEach_104 kiconst_m1 ?_
    exact q_sub [1, 2, 3] rfl (jX3_doEach_n105 X l q1 h1 rec10 hr10 x2 (-1) x2 w)
  · refine q_aload_n 1 eX3_doEach_87 rfl rfl ?_
    refine q_getG (v := 9) eX3_doEach_88 fl_3_33 tC_37 rfl gC_37_1 ?_
    refine q_callVI (As := []) (st := [.int x2, .ref 39]) eX3_doEach_91 cv_3_87 (kX6_size X l 9 w) tC_9 rfl (by decide) rfl rfl (Nat.le_of_ble_eq_true rfl) (by decide) (fun r1 w2 => ?_)
    refine q_aload_n 1 eX3_doEach_94 rfl rfl ?_
    refine q_getG (v := 38) eX3_doEach_95 fl_3_11 tC_37 rfl gC_37_4 ?_
    refine q_iload_n 3 eX3_doEach_98 rfl rfl ?_
    refine q_iald eX3_doEach_99 tC_38 nC_38 ?_
    refine q_isub eX3_doEach_100 ?_
    refine q_goto (tgt := 105) eX3_doEach_101 (by decide) ?_
    exact q_sub [1, 2, 3] rfl (jX3_doEach_n105 X l q1 h1 rec10 hr10 x2 (r1 - (w2.1 38 (q_ix x2))) x2 w2)
def fX3_doEach_n76 (q1 : Nat) (rec10 : Int32 → q_W → Option (Unit × q_W)) (x2 : Int32) (w : q_W) : Option (Unit × q_W) :=
  fX3_doEach_n77 q1 rec10 x2 0 w
set_option maxHeartbeats 4000000 in
set_option maxRecDepth 100000 in
theorem jX3_doEach_n76 (X : q_X) (l : Launch) (q1 : Nat) (h1 : cC q1 = 4) (rec10 : Int32 → q_W → Option (Unit × q_W)) (hr10 : ∀ x2 w, q_J X S_C l mX3_doEach 5 q_tV 10 [(0, .ref 37), (1, .ref q1), (2, .int x2)] [] w (rec10 x2 w)) (x2 : Int32) (w : q_W) : q_J X S_C l mX3_doEach 5 q_tV 76 [(0, .ref 37), (1, .ref q1), (2, .int x2)] [] w (fX3_doEach_n76 q1 rec10 x2 w) := by
  refine q_iconst eX3_doEach_76 kiconst_0 ?_
  exact q_sub [0, 1, 2] rfl (jX3_doEach_n77 X l q1 h1 rec10 hr10 x2 0 w)
def fX3_doEach_h10 (q1 : Nat) (rec10 : Int32 → q_W → Option (Unit × q_W)) (x2 : Int32) (w : q_W) : Option (Unit × q_W) :=
  if 8 ≤ x2 then
    some ((), w)
  else
    q_b (fX6_allow 9 60 w) fun r1 w2 =>
    q_b (fX6_size 9 w2) fun r3 w4 =>
    if q_inb x2 8 then
    q_lt (q_sI w4 38 (q_ix x2) r3) fun w5 =>
    q_b (fX4_has q1 x2 w5) fun r6 w7 =>
    if r6 = 0 then
      fX3_doEach_n76 q1 rec10 x2 w7
    else
      q_b (fX4_needs q1 x2 w7) fun r8 w9 =>
      if r8 = 0 then
        q_b (fX1_perform q1 x2 0 0 9 w9) fun r10 w11 =>
        if r10 = 0 then
          fX3_doEach_n77 q1 rec10 x2 1 w11
        else
          fX3_doEach_n76 q1 rec10 x2 w11
      else
        fX3_doEach_n76 q1 rec10 x2 w9
    else none
def fX3_doEach_l10 (q1 : Nat) : Int32 → q_W → Option (Unit × q_W) := q_it q_N (fX3_doEach_h10 q1) (fun _ _ => none)
set_option maxHeartbeats 4000000 in
set_option maxRecDepth 100000 in
theorem jX3_doEach_h10 (X : q_X) (l : Launch) (q1 : Nat) (h1 : cC q1 = 4) (rec10 : Int32 → q_W → Option (Unit × q_W)) (hr10 : ∀ x2 w, q_J X S_C l mX3_doEach 5 q_tV 10 [(0, .ref 37), (1, .ref q1), (2, .int x2)] [] w (rec10 x2 w)) : ∀ x2 w, q_J X S_C l mX3_doEach 5 q_tV 10 [(0, .ref 37), (1, .ref q1), (2, .int x2)] [] w (fX3_doEach_h10 q1 rec10 x2 w) := by
  intro x2 w
  refine q_iload_n 2 eX3_doEach_10 rfl rfl ?_
  refine q_bipush eX3_doEach_11 kbipush_8 ?_
  refine q_icmp_ge (tgt := 125) eX3_doEach_13 (by decide) (fun _ => ?_) (fun _ => ?_)
  · exact q_return eX3_doEach_125 rfl
  · refine q_aload_n 0 eX3_doEach_16 rfl rfl ?_
    refine q_getG (v := 9) eX3_doEach_17 fl_3_33 tC_37 rfl gC_37_1 ?_
    refine q_bipush eX3_doEach_20 kbipush_60 ?_
    refine q_callVV (As := [.int 60]) (st := []) eX3_doEach_22 cv_3_116 (kX6_allow X l 9 60 w) tC_9 rfl (by decide) rfl rfl (Nat.le_of_ble_eq_true rfl) (by decide) (fun r1 w2 => ?_)
    refine q_aload_n 0 eX3_doEach_25 rfl rfl ?_
    refine q_getG (v := 38) eX3_doEach_26 fl_3_11 tC_37 rfl gC_37_4 ?_
    refine q_iload_n 2 eX3_doEach_29 rfl rfl ?_
    refine q_aload_n 0 eX3_doEach_30 rfl rfl ?_
    refine q_getG (v := 9) eX3_doEach_31 fl_3_33 tC_37 rfl gC_37_1 ?_
    refine q_callVI (As := []) (st := [.int x2, .ref 38]) eX3_doEach_34 cv_3_87 (kX6_size X l 9 w2) tC_9 rfl (by decide) rfl rfl (Nat.le_of_ble_eq_true rfl) (by decide) (fun r3 w4 => ?_)
    refine q_iast eX3_doEach_37 tC_38 nC_38 ?_
    refine q_ltW (fun w5 => ?_)
    refine q_aload_n 1 eX3_doEach_38 rfl rfl ?_
    refine q_iload_n 2 eX3_doEach_39 rfl rfl ?_
    refine q_callVI (As := [.int x2]) (st := []) eX3_doEach_40 cv_3_119 (kX4_has X l q1 x2 w5) h1 rfl (by decide) rfl rfl (Nat.le_of_ble_eq_true rfl) (by decide) (fun r6 w7 => ?_)
    refine q_if_eq (tgt := 76) eX3_doEach_43 (by decide) (fun _ => ?_) (fun _ => ?_)
    · exact q_sub [0, 1, 2] rfl (jX3_doEach_n76 X l q1 h1 rec10 hr10 x2 w7)
    · refine q_aload_n 1 eX3_doEach_46 rfl rfl ?_
      refine q_iload_n 2 eX3_doEach_47 rfl rfl ?_
      refine q_callVI (As := [.int x2]) (st := []) eX3_doEach_48 cv_3_61 (kX4_needs X l q1 x2 w7) h1 rfl (by decide) rfl rfl (Nat.le_of_ble_eq_true rfl) (by decide) (fun r8 w9 => ?_)
      refine q_if_ne (tgt := 76) eX3_doEach_51 (by decide) (fun _ => ?_) (fun _ => ?_)
      · refine q_aload_n 0 eX3_doEach_54 rfl rfl ?_
        refine q_getG (v := 31) eX3_doEach_55 fl_3_29 tC_37 rfl gC_37_0 ?_
        refine q_aload_n 1 eX3_doEach_58 rfl rfl ?_
        refine q_iload_n 2 eX3_doEach_59 rfl rfl ?_
        refine q_iconst eX3_doEach_60 kiconst_0 ?_
        refine q_iconst eX3_doEach_61 kiconst_0 ?_
        refine q_aload_n 0 eX3_doEach_62 rfl rfl ?_
        refine q_getG (v := 9) eX3_doEach_63 fl_3_33 tC_37 rfl gC_37_1 ?_
        refine q_callVI (As := [.ref q1, .int x2, .int 0, .int 0, .ref 9]) (st := []) eX3_doEach_66 cv_3_71 (kX1_perform X l q1 x2 0 0 9 w9) tC_31 rfl (by decide) rfl rfl (Nat.le_of_ble_eq_true rfl) (by decide) (fun r10 w11 => ?_)
        refine q_if_ne (tgt := 76) eX3_doEach_69 (by decide) (fun _ => ?_) (fun _ => ?_)
        · refine q_iconst eX3_doEach_72 kiconst_1 ?_
          refine q_goto (tgt := 77) eX3_doEach_73 (by decide) ?_
          exact q_sub [0, 1, 2] rfl (jX3_doEach_n77 X l q1 h1 rec10 hr10 x2 1 w11)
        · exact q_sub [0, 1, 2] rfl (jX3_doEach_n76 X l q1 h1 rec10 hr10 x2 w11)
      · exact q_sub [0, 1, 2] rfl (jX3_doEach_n76 X l q1 h1 rec10 hr10 x2 w9)
set_option maxHeartbeats 4000000 in
set_option maxRecDepth 100000 in
theorem jX3_doEach_l10 (X : q_X) (l : Launch) (q1 : Nat) (h1 : cC q1 = 4) : ∀ x2 w, q_J X S_C l mX3_doEach 5 q_tV 10 [(0, .ref 37), (1, .ref q1), (2, .int x2)] [] w (fX3_doEach_l10 q1 x2 w) := by
  exact q_it_ind (fun rc => ∀ x2 w, q_J X S_C l mX3_doEach 5 q_tV 10 [(0, .ref 37), (1, .ref q1), (2, .int x2)] [] w (rc x2 w)) _ _ (fun _ _ => q_none) (fun rc hrc => jX3_doEach_h10 X l q1 h1 rc hrc) q_N
def fX3_doEach (q1 : Nat) (w : q_W) : Option (Unit × q_W) :=
  if cC q1 = 4 then
  q_b (fX6_clear 9 0 w) fun r1 w2 =>
  fX3_doEach_l10 q1 0 w2
  else none
set_option maxHeartbeats 4000000 in
set_option maxRecDepth 100000 in
theorem kX3_doEach (X : q_X) (l : Launch) (q1 : Nat) (w : q_W) : q_Ct X S_C l mX3_doEach 5 q_tV [.ref 37, .ref q1] w (fX3_doEach q1 w) := by
  refine q_intro (lv := [(0, .ref 37), (1, .ref q1)]) (by decide +kernel) rfl (Nat.le_of_ble_eq_true rfl) rfl ?_
  refine q_ck (fun h1 => ?_)
  refine q_aload_n 0 eX3_doEach_0 rfl rfl ?_
  refine q_getG (v := 9) eX3_doEach_1 fl_3_33 tC_37 rfl gC_37_1 ?_
  refine q_iconst eX3_doEach_4 kiconst_0 ?_
  refine q_callVV (As := [.int 0]) (st := []) eX3_doEach_5 cv_3_65 (kX6_clear X l 9 0 w) tC_9 rfl (by decide) rfl rfl (Nat.le_of_ble_eq_true rfl) (by decide) (fun r1 w2 => ?_)
  refine q_iconst eX3_doEach_8 kiconst_0 ?_
  refine q_istore_n (lv' := [(2, .int 0), (0, .ref 37), (1, .ref q1)]) eX3_doEach_9 rfl (by decide) rfl ?_
  exact q_sub [1, 2, 0] rfl (jX3_doEach_l10 X l q1 h1 0 w2)
def fX3_holdsTogether_n79 (x2 : Int32) (x3 : Int32) (w : q_W) : Option (Int32 × q_W) :=
  if 60 < x2 then
    some (0, w)
  else
    if 2000 < x3 then
      some (0, w)
    else
      some (1, w)
set_option maxHeartbeats 4000000 in
set_option maxRecDepth 100000 in
theorem jX3_holdsTogether_n79 (X : q_X) (l : Launch) (x2 : Int32) (x3 : Int32) (w : q_W) : q_J X S_C l mX3_holdsTogether 0 q_tI 79 [(2, .int x2), (3, .int x3)] [] w (fX3_holdsTogether_n79 x2 x3 w) := by
  refine q_iload_n 0 eX3_holdsTogether_79 rfl rfl ?_
  refine q_bipush eX3_holdsTogether_80 kbipush_60 ?_
  refine q_icmp_gt (tgt := 96) eX3_holdsTogether_82 (by decide) (fun _ => ?_) (fun _ => ?_)
  · refine q_iconst eX3_holdsTogether_96 kiconst_0 ?_
    exact q_zret eX3_holdsTogether_97 rfl rfl
  · refine q_iload_n 1 eX3_holdsTogether_85 rfl rfl ?_
    refine q_sipush eX3_holdsTogether_86 ksipush_2000 ?_
    refine q_icmp_gt (tgt := 96) eX3_holdsTogether_89 (by decide) (fun _ => ?_) (fun _ => ?_)
    · refine q_iconst eX3_holdsTogether_96 kiconst_0 ?_
      exact q_zret eX3_holdsTogether_97 rfl rfl
    · refine q_iconst eX3_holdsTogether_92 kiconst_1 ?_
      refine q_goto (tgt := 97) eX3_holdsTogether_93 (by decide) ?_
      exact q_zret eX3_holdsTogether_97 rfl rfl
def fX3_holdsTogether_h7 (rec7 : Int32 → Int32 → Int32 → Int32 → q_W → Option (Int32 × q_W)) (x1 : Int32) (x2 : Int32) (x3 : Int32) (x4 : Int32) (w : q_W) : Option (Int32 × q_W) :=
  if x1 ≤ x4 then
    fX3_holdsTogether_n79 x2 x3 w
  else
    if 3 ≤ x4 then
      fX3_holdsTogether_n79 x2 x3 w
    else
      if q_inb x4 3 then
      q_lt (w.1 41 (q_ix x4)) fun y1 =>
      if y1 < 0 then
        some (0, w)
      else
        if 8 ≤ y1 then
          some (0, w)
        else
          if q_inb y1 8 then
          if (w.1 39 (q_ix y1)) = (-1) then
            some (0, w)
          else
            if q_inb y1 8 then
            q_lt (x2 + (w.1 39 (q_ix y1))) fun y2 =>
            if q_inb y1 8 then
            q_lt (x3 + (w.1 40 (q_ix y1))) fun y3 =>
            q_lt (x4 + 1) fun y4 =>
            rec7 x1 y2 y3 y4 w
            else none
            else none
          else none
      else none
def fX3_holdsTogether_l7 : Int32 → Int32 → Int32 → Int32 → q_W → Option (Int32 × q_W) := q_it q_N (fX3_holdsTogether_h7) (fun _ _ _ _ _ => none)
set_option maxHeartbeats 4000000 in
set_option maxRecDepth 100000 in
theorem jX3_holdsTogether_h7 (X : q_X) (l : Launch) (rec7 : Int32 → Int32 → Int32 → Int32 → q_W → Option (Int32 × q_W)) (hr7 : ∀ x1 x2 x3 x4 w, q_J X S_C l mX3_holdsTogether 0 q_tI 7 [(0, .ref 37), (1, .int x1), (2, .int x2), (3, .int x3), (4, .int x4)] [] w (rec7 x1 x2 x3 x4 w)) : ∀ x1 x2 x3 x4 w, q_J X S_C l mX3_holdsTogether 0 q_tI 7 [(0, .ref 37), (1, .int x1), (2, .int x2), (3, .int x3), (4, .int x4)] [] w (fX3_holdsTogether_h7 rec7 x1 x2 x3 x4 w) := by
  intro x1 x2 x3 x4 w
  refine q_iload 4 eX3_holdsTogether_7 rfl ?_
  refine q_iload_n 1 eX3_holdsTogether_9 rfl rfl ?_
  refine q_icmp_ge (tgt := 79) eX3_holdsTogether_10 (by decide) (fun _ => ?_) (fun _ => ?_)
  · exact q_sub [2, 3] rfl (jX3_holdsTogether_n79 X l x2 x3 w)
  · refine q_iload 4 eX3_holdsTogether_13 rfl ?_
    refine q_iconst eX3_holdsTogether_15 kiconst_3 ?_
    refine q_icmp_ge (tgt := 79) eX3_holdsTogether_16 (by decide) (fun _ => ?_) (fun _ => ?_)
    · exact q_sub [2, 3] rfl (jX3_holdsTogether_n79 X l x2 x3 w)
    · refine q_aload_n 0 eX3_holdsTogether_19 rfl rfl ?_
      refine q_getG (v := 41) eX3_holdsTogether_20 fl_3_23 tC_37 rfl gC_37_7 ?_
      refine q_iload 4 eX3_holdsTogether_23 rfl ?_
      refine q_iald eX3_holdsTogether_25 tC_41 nC_41 ?_
      refine q_ltI (fun y1 => ?_)
      refine q_istore (lv' := [(5, .int y1), (0, .ref 37), (1, .int x1), (2, .int x2), (3, .int x3), (4, .int x4)]) eX3_holdsTogether_26 (by decide) rfl ?_
      refine q_iload 0 eX3_holdsTogether_28 rfl ?_
      refine q_if_lt (tgt := 51) eX3_holdsTogether_30 (by decide) (fun _ => ?_) (fun _ => ?_)
      · refine q_iconst eX3_holdsTogether_51 kiconst_0 ?_
        exact q_zret eX3_holdsTogether_52 rfl rfl
      · refine q_iload 0 eX3_holdsTogether_33 rfl ?_
        refine q_bipush eX3_holdsTogether_35 kbipush_8 ?_
        refine q_icmp_ge (tgt := 51) eX3_holdsTogether_37 (by decide) (fun _ => ?_) (fun _ => ?_)
        · refine q_iconst eX3_holdsTogether_51 kiconst_0 ?_
          exact q_zret eX3_holdsTogether_52 rfl rfl
        · refine q_aload_n 1 eX3_holdsTogether_40 rfl rfl ?_
          refine q_getG (v := 39) eX3_holdsTogether_41 fl_3_17 tC_37 rfl gC_37_5 ?_
          refine q_iload 0 eX3_holdsTogether_44 rfl ?_
          refine q_iald eX3_holdsTogether_46 tC_39 nC_39 ?_
          refine q_iconst eX3_holdsTogether_47 kiconst_m1 ?_
          refine q_icmp_ne (tgt := 53) eX3_holdsTogether_48 (by decide) (fun _ => ?_) (fun _ => ?_)
          · refine q_iconst eX3_holdsTogether_51 kiconst_0 ?_
            exact q_zret eX3_holdsTogether_52 rfl rfl
          · refine q_iload_n 3 eX3_holdsTogether_53 rfl rfl ?_
            refine q_aload_n 1 eX3_holdsTogether_54 rfl rfl ?_
            refine q_getG (v := 39) eX3_holdsTogether_55 fl_3_17 tC_37 rfl gC_37_5 ?_
            refine q_iload 0 eX3_holdsTogether_58 rfl ?_
            refine q_iald eX3_holdsTogether_60 tC_39 nC_39 ?_
            refine q_iadd eX3_holdsTogether_61 ?_
            refine q_ltI (fun y2 => ?_)
            refine q_istore_n (lv' := [(2, .int y2), (5, .int y1), (0, .ref 37), (1, .int x1), (3, .int x3), (4, .int x4)]) eX3_holdsTogether_62 rfl (by decide) rfl ?_
            refine q_iload_n 4 eX3_holdsTogether_63 rfl rfl ?_
            refine q_aload_n 2 eX3_holdsTogether_64 rfl rfl ?_
            refine q_getG (v := 40) eX3_holdsTogether_65 fl_3_20 tC_37 rfl gC_37_6 ?_
            refine q_iload 1 eX3_holdsTogether_68 rfl ?_
            refine q_iald eX3_holdsTogether_70 tC_40 nC_40 ?_
            refine q_iadd eX3_holdsTogether_71 ?_
            refine q_ltI (fun y3 => ?_)
            refine q_istore_n (lv' := [(3, .int y3), (2, .int y2), (5, .int y1), (0, .ref 37), (1, .int x1), (4, .int x4)]) eX3_holdsTogether_72 rfl (by decide) rfl ?_
            refine q_ltE (fun y4 hy4 => ?_)
            refine q_iinc (v := y4) (lv' := [(4, .int y4), (3, .int y3), (2, .int y2), (5, .int y1), (0, .ref 37), (1, .int x1)]) 5 eX3_holdsTogether_73 rfl hy4 (by decide) rfl ?_
            refine q_goto (tgt := 7) eX3_holdsTogether_76 (by decide) ?_
            exact q_sub [4, 5, 2, 1, 0] rfl (hr7 x1 y2 y3 y4 w)
set_option maxHeartbeats 4000000 in
set_option maxRecDepth 100000 in
theorem jX3_holdsTogether_l7 (X : q_X) (l : Launch) : ∀ x1 x2 x3 x4 w, q_J X S_C l mX3_holdsTogether 0 q_tI 7 [(0, .ref 37), (1, .int x1), (2, .int x2), (3, .int x3), (4, .int x4)] [] w (fX3_holdsTogether_l7 x1 x2 x3 x4 w) := by
  exact q_it_ind (fun rc => ∀ x1 x2 x3 x4 w, q_J X S_C l mX3_holdsTogether 0 q_tI 7 [(0, .ref 37), (1, .int x1), (2, .int x2), (3, .int x3), (4, .int x4)] [] w (rc x1 x2 x3 x4 w)) _ _ (fun _ _ _ _ _ => q_none) (fun rc hrc => jX3_holdsTogether_h7 X l rc hrc) q_N
def fX3_holdsTogether (a1 : Int32) (w : q_W) : Option (Int32 × q_W) :=
  fX3_holdsTogether_l7 a1 0 0 0 w
set_option maxHeartbeats 4000000 in
set_option maxRecDepth 100000 in
theorem kX3_holdsTogether (X : q_X) (l : Launch) (a1 : Int32) (w : q_W) : q_Ct X S_C l mX3_holdsTogether 0 q_tI [.ref 37, .int a1] w (fX3_holdsTogether a1 w) := by
  refine q_intro (lv := [(0, .ref 37), (1, .int a1)]) (by decide +kernel) rfl (Nat.le_of_ble_eq_true rfl) rfl ?_
  refine q_iconst eX3_holdsTogether_0 kiconst_0 ?_
  refine q_istore_n (lv' := [(2, .int 0), (0, .ref 37), (1, .int a1)]) eX3_holdsTogether_1 rfl (by decide) rfl ?_
  refine q_iconst eX3_holdsTogether_2 kiconst_0 ?_
  refine q_istore_n (lv' := [(3, .int 0), (2, .int 0), (0, .ref 37), (1, .int a1)]) eX3_holdsTogether_3 rfl (by decide) rfl ?_
  refine q_iconst eX3_holdsTogether_4 kiconst_0 ?_
  refine q_istore (lv' := [(4, .int 0), (3, .int 0), (2, .int 0), (0, .ref 37), (1, .int a1)]) eX3_holdsTogether_5 (by decide) rfl ?_
  exact q_sub [3, 4, 2, 1, 0] rfl (jX3_holdsTogether_l7 X l a1 0 0 0 w)
def fX3_keepFound_h7 (rec7 : Int32 → q_W → Option (Unit × q_W)) (x2 : Int32) (w : q_W) : Option (Unit × q_W) :=
  if 3 ≤ x2 then
    some ((), w)
  else
    if q_inb x2 3 then
    if q_inb x2 3 then
    q_lt (q_sI w 42 (q_ix x2) (w.1 41 (q_ix x2))) fun w1 =>
    q_lt (x2 + 1) fun y2 =>
    rec7 y2 w1
    else none
    else none
def fX3_keepFound_l7 : Int32 → q_W → Option (Unit × q_W) := q_it q_N (fX3_keepFound_h7) (fun _ _ => none)
set_option maxHeartbeats 4000000 in
set_option maxRecDepth 100000 in
theorem jX3_keepFound_h7 (X : q_X) (l : Launch) (rec7 : Int32 → q_W → Option (Unit × q_W)) (hr7 : ∀ x2 w, q_J X S_C l mX3_keepFound 0 q_tV 7 [(0, .ref 37), (2, .int x2)] [] w (rec7 x2 w)) : ∀ x2 w, q_J X S_C l mX3_keepFound 0 q_tV 7 [(0, .ref 37), (2, .int x2)] [] w (fX3_keepFound_h7 rec7 x2 w) := by
  intro x2 w
  refine q_iload_n 1 eX3_keepFound_7 rfl rfl ?_
  refine q_iconst eX3_keepFound_8 kiconst_3 ?_
  refine q_icmp_ge (tgt := 30) eX3_keepFound_9 (by decide) (fun _ => ?_) (fun _ => ?_)
  · exact q_return eX3_keepFound_30 rfl
  · refine q_aload_n 0 eX3_keepFound_12 rfl rfl ?_
    refine q_getG (v := 42) eX3_keepFound_13 fl_3_26 tC_37 rfl gC_37_8 ?_
    refine q_iload_n 1 eX3_keepFound_16 rfl rfl ?_
    refine q_aload_n 0 eX3_keepFound_17 rfl rfl ?_
    refine q_getG (v := 41) eX3_keepFound_18 fl_3_23 tC_37 rfl gC_37_7 ?_
    refine q_iload_n 1 eX3_keepFound_21 rfl rfl ?_
    refine q_iald eX3_keepFound_22 tC_41 nC_41 ?_
    refine q_iast eX3_keepFound_23 tC_42 nC_42 ?_
    refine q_ltW (fun w1 => ?_)
    refine q_ltE (fun y2 hy2 => ?_)
    refine q_iinc (v := y2) (lv' := [(2, .int y2), (0, .ref 37)]) 1 eX3_keepFound_24 rfl hy2 (by decide) rfl ?_
    refine q_goto (tgt := 7) eX3_keepFound_27 (by decide) ?_
    exact q_sub [1, 0] rfl (hr7 y2 w1)
set_option maxHeartbeats 4000000 in
set_option maxRecDepth 100000 in
theorem jX3_keepFound_l7 (X : q_X) (l : Launch) : ∀ x2 w, q_J X S_C l mX3_keepFound 0 q_tV 7 [(0, .ref 37), (2, .int x2)] [] w (fX3_keepFound_l7 x2 w) := by
  exact q_it_ind (fun rc => ∀ x2 w, q_J X S_C l mX3_keepFound 0 q_tV 7 [(0, .ref 37), (2, .int x2)] [] w (rc x2 w)) _ _ (fun _ _ => q_none) (fun rc hrc => jX3_keepFound_h7 X l rc hrc) q_N
def fX3_keepFound (a1 : Int32) (w : q_W) : Option (Unit × q_W) :=
  q_lt (q_sI w 37 9 a1) fun w1 =>
  fX3_keepFound_l7 0 w1
set_option maxHeartbeats 4000000 in
set_option maxRecDepth 100000 in
theorem kX3_keepFound (X : q_X) (l : Launch) (a1 : Int32) (w : q_W) : q_Ct X S_C l mX3_keepFound 0 q_tV [.ref 37, .int a1] w (fX3_keepFound a1 w) := by
  refine q_intro (lv := [(0, .ref 37), (1, .int a1)]) (by decide +kernel) rfl (Nat.le_of_ble_eq_true rfl) rfl ?_
  refine q_aload_n 0 eX3_keepFound_0 rfl rfl ?_
  refine q_iload_n 1 eX3_keepFound_1 rfl rfl ?_
  refine q_putI eX3_keepFound_2 fp_3_52 tC_37 rfl ⟨rfl, rfl⟩ ?_
  refine q_ltW (fun w1 => ?_)
  refine q_iconst eX3_keepFound_5 kiconst_0 ?_
  refine q_istore_n (lv' := [(2, .int 0), (0, .ref 37), (1, .int a1)]) eX3_keepFound_6 rfl (by decide) rfl ?_
  exact q_sub [1, 0] rfl (jX3_keepFound_l7 X l 0 w1)
def fX3_pickMembers_n62 (rec14 : Int32 → Int32 → q_W → Option (Unit × q_W)) (x1 : Int32) (x3 : Int32) (w : q_W) : Option (Unit × q_W) :=
  q_lt (x3 + 1) fun y1 =>
  rec14 x1 y1 w
set_option maxHeartbeats 4000000 in
set_option maxRecDepth 100000 in
theorem jX3_pickMembers_n62 (X : q_X) (l : Launch) (rec14 : Int32 → Int32 → q_W → Option (Unit × q_W)) (hr14 : ∀ x1 x3 w, q_J X S_C l mX3_pickMembers 2 q_tV 14 [(0, .ref 37), (1, .int x1), (3, .int x3)] [] w (rec14 x1 x3 w)) (x1 : Int32) (x3 : Int32) (w : q_W) : q_J X S_C l mX3_pickMembers 2 q_tV 62 [(0, .ref 37), (1, .int x1), (3, .int x3)] [] w (fX3_pickMembers_n62 rec14 x1 x3 w) := by
  refine q_ltE (fun y1 hy1 => ?_)
  refine q_iinc (v := y1) (lv' := [(3, .int y1), (0, .ref 37), (1, .int x1)]) 2 eX3_pickMembers_62 rfl hy1 (by decide) rfl ?_
  refine q_goto (tgt := 14) eX3_pickMembers_65 (by decide) ?_
  exact q_sub [1, 2, 0] rfl (hr14 x1 y1 w)
def fX3_pickMembers_h14 (rec14 : Int32 → Int32 → q_W → Option (Unit × q_W)) (x1 : Int32) (x3 : Int32) (w : q_W) : Option (Unit × q_W) :=
  if x1 ≤ x3 then
    some ((), w)
  else
    if 3 ≤ x3 then
      some ((), w)
    else
      if q_inb x3 3 then
      q_lt (w.1 41 (q_ix x3)) fun y1 =>
      if y1 < 0 then
        fX3_pickMembers_n62 rec14 x1 x3 w
      else
        if 8 ≤ y1 then
          fX3_pickMembers_n62 rec14 x1 x3 w
        else
          if q_inb y1 8 then
          if q_inb y1 8 then
          q_b (fX3_pickAll (w.1 38 (q_ix y1)) (w.1 39 (q_ix y1)) w) fun r2 w3 =>
          fX3_pickMembers_n62 rec14 x1 x3 w3
          else none
          else none
      else none
def fX3_pickMembers_l14 : Int32 → Int32 → q_W → Option (Unit × q_W) := q_it q_N (fX3_pickMembers_h14) (fun _ _ _ => none)
set_option maxHeartbeats 4000000 in
set_option maxRecDepth 100000 in
theorem jX3_pickMembers_h14 (X : q_X) (l : Launch) (rec14 : Int32 → Int32 → q_W → Option (Unit × q_W)) (hr14 : ∀ x1 x3 w, q_J X S_C l mX3_pickMembers 2 q_tV 14 [(0, .ref 37), (1, .int x1), (3, .int x3)] [] w (rec14 x1 x3 w)) : ∀ x1 x3 w, q_J X S_C l mX3_pickMembers 2 q_tV 14 [(0, .ref 37), (1, .int x1), (3, .int x3)] [] w (fX3_pickMembers_h14 rec14 x1 x3 w) := by
  intro x1 x3 w
  refine q_iload_n 2 eX3_pickMembers_14 rfl rfl ?_
  refine q_iload_n 1 eX3_pickMembers_15 rfl rfl ?_
  refine q_icmp_ge (tgt := 68) eX3_pickMembers_16 (by decide) (fun _ => ?_) (fun _ => ?_)
  · exact q_return eX3_pickMembers_68 rfl
  · refine q_iload_n 2 eX3_pickMembers_19 rfl rfl ?_
    refine q_iconst eX3_pickMembers_20 kiconst_3 ?_
    refine q_icmp_ge (tgt := 68) eX3_pickMembers_21 (by decide) (fun _ => ?_) (fun _ => ?_)
    · exact q_return eX3_pickMembers_68 rfl
    · refine q_aload_n 0 eX3_pickMembers_24 rfl rfl ?_
      refine q_getG (v := 41) eX3_pickMembers_25 fl_3_23 tC_37 rfl gC_37_7 ?_
      refine q_iload_n 2 eX3_pickMembers_28 rfl rfl ?_
      refine q_iald eX3_pickMembers_29 tC_41 nC_41 ?_
      refine q_ltI (fun y1 => ?_)
      refine q_istore (lv' := [(4, .int y1), (0, .ref 37), (1, .int x1), (3, .int x3)]) eX3_pickMembers_30 (by decide) rfl ?_
      refine q_iload 0 eX3_pickMembers_32 rfl ?_
      refine q_if_lt (tgt := 62) eX3_pickMembers_34 (by decide) (fun _ => ?_) (fun _ => ?_)
      · exact q_sub [1, 2, 3] rfl (jX3_pickMembers_n62 X l rec14 hr14 x1 x3 w)
      · refine q_iload 0 eX3_pickMembers_37 rfl ?_
        refine q_bipush eX3_pickMembers_39 kbipush_8 ?_
        refine q_icmp_ge (tgt := 62) eX3_pickMembers_41 (by decide) (fun _ => ?_) (fun _ => ?_)
        · exact q_sub [1, 2, 3] rfl (jX3_pickMembers_n62 X l rec14 hr14 x1 x3 w)
        · refine q_aload_n 1 eX3_pickMembers_44 rfl rfl ?_
          refine q_aload_n 1 eX3_pickMembers_45 rfl rfl ?_
          refine q_getG (v := 38) eX3_pickMembers_46 fl_3_11 tC_37 rfl gC_37_4 ?_
          refine q_iload 0 eX3_pickMembers_49 rfl ?_
          refine q_iald eX3_pickMembers_51 tC_38 nC_38 ?_
          refine q_aload_n 1 eX3_pickMembers_52 rfl rfl ?_
          refine q_getG (v := 39) eX3_pickMembers_53 fl_3_17 tC_37 rfl gC_37_5 ?_
          refine q_iload 0 eX3_pickMembers_56 rfl ?_
          refine q_iald eX3_pickMembers_58 tC_39 nC_39 ?_
          refine q_callVV (As := [.int (w.1 38 (q_ix y1)), .int (w.1 39 (q_ix y1))]) (st := []) eX3_pickMembers_59 cv_3_88 (kX3_pickAll X l (w.1 38 (q_ix y1)) (w.1 39 (q_ix y1)) w) tC_37 rfl (by decide) rfl rfl (Nat.le_of_ble_eq_true rfl) (by decide) (fun r2 w3 => ?_)
          exact q_sub [1, 2, 3] rfl (jX3_pickMembers_n62 X l rec14 hr14 x1 x3 w3)
set_option maxHeartbeats 4000000 in
set_option maxRecDepth 100000 in
theorem jX3_pickMembers_l14 (X : q_X) (l : Launch) : ∀ x1 x3 w, q_J X S_C l mX3_pickMembers 2 q_tV 14 [(0, .ref 37), (1, .int x1), (3, .int x3)] [] w (fX3_pickMembers_l14 x1 x3 w) := by
  exact q_it_ind (fun rc => ∀ x1 x3 w, q_J X S_C l mX3_pickMembers 2 q_tV 14 [(0, .ref 37), (1, .int x1), (3, .int x3)] [] w (rc x1 x3 w)) _ _ (fun _ _ _ => q_none) (fun rc hrc => jX3_pickMembers_h14 X l rc hrc) q_N
def fX3_pickMembers (a1 : Int32) (a2 : Int32) (w : q_W) : Option (Unit × q_W) :=
  q_b (fX0_begin 9 a2 w) fun r1 w2 =>
  fX3_pickMembers_l14 a1 0 w2
set_option maxHeartbeats 4000000 in
set_option maxRecDepth 100000 in
theorem kX3_pickMembers (X : q_X) (l : Launch) (a1 : Int32) (a2 : Int32) (w : q_W) : q_Ct X S_C l mX3_pickMembers 2 q_tV [.ref 37, .int a1, .int a2] w (fX3_pickMembers a1 a2 w) := by
  refine q_intro (lv := [(0, .ref 37), (1, .int a1), (2, .int a2)]) (by decide +kernel) rfl (Nat.le_of_ble_eq_true rfl) rfl ?_
  refine q_aload_n 0 eX3_pickMembers_0 rfl rfl ?_
  refine q_getG (v := 12) eX3_pickMembers_1 fl_3_37 tC_37 rfl gC_37_2 ?_
  refine q_aload_n 0 eX3_pickMembers_4 rfl rfl ?_
  refine q_getG (v := 9) eX3_pickMembers_5 fl_3_33 tC_37 rfl gC_37_1 ?_
  refine q_iload_n 2 eX3_pickMembers_8 rfl rfl ?_
  refine q_callVV (As := [.ref 9, .int a2]) (st := []) eX3_pickMembers_9 cv_3_81 (kX0_begin X l 9 a2 w) tC_12 rfl (by decide) rfl rfl (Nat.le_of_ble_eq_true rfl) (by decide) (fun r1 w2 => ?_)
  refine q_iconst eX3_pickMembers_12 kiconst_0 ?_
  refine q_istore_n (lv' := [(3, .int 0), (0, .ref 37), (1, .int a1), (2, .int a2)]) eX3_pickMembers_13 rfl (by decide) rfl ?_
  exact q_sub [1, 2, 0] rfl (jX3_pickMembers_l14 X l a1 0 w2)
def fX3_setMembers_h19 (rec19 : Int32 → Int32 → Int32 → q_W → Option (Int32 × q_W)) (x3 : Int32) (x4 : Int32) (x5 : Int32) (w : q_W) : Option (Int32 × q_W) :=
  if x5 < 0 then
    if x4 = 0 then
      some (1, w)
    else
      some (0, w)
  else
    if x3 = 0 then none else
    if q_inb x5 3 then
    q_lt (q_sI w 41 (q_ix x5) (x4 - x4 / x3 * x3)) fun w1 =>
    if x3 = 0 then none else
    q_lt (x4 / x3) fun y2 =>
    q_lt (x5 + (-1)) fun y3 =>
    rec19 x3 y2 y3 w1
    else none
def fX3_setMembers_l19 : Int32 → Int32 → Int32 → q_W → Option (Int32 × q_W) := q_it q_N (fX3_setMembers_h19) (fun _ _ _ _ => none)
set_option maxHeartbeats 4000000 in
set_option maxRecDepth 100000 in
theorem jX3_setMembers_h19 (X : q_X) (l : Launch) (rec19 : Int32 → Int32 → Int32 → q_W → Option (Int32 × q_W)) (hr19 : ∀ x3 x4 x5 w, q_J X S_C l mX3_setMembers 0 q_tI 19 [(0, .ref 37), (3, .int x3), (4, .int x4), (5, .int x5)] [] w (rec19 x3 x4 x5 w)) : ∀ x3 x4 x5 w, q_J X S_C l mX3_setMembers 0 q_tI 19 [(0, .ref 37), (3, .int x3), (4, .int x4), (5, .int x5)] [] w (fX3_setMembers_h19 rec19 x3 x4 x5 w) := by
  intro x3 x4 x5 w
  refine q_iload 3 eX3_setMembers_19 rfl ?_
  refine q_if_lt (tgt := 47) eX3_setMembers_21 (by decide) (fun _ => ?_) (fun _ => ?_)
  · refine q_iload 2 eX3_setMembers_47 rfl ?_
    refine q_if_ne (tgt := 56) eX3_setMembers_49 (by decide) (fun _ => ?_) (fun _ => ?_)
    · refine q_iconst eX3_setMembers_52 kiconst_1 ?_
      refine q_goto (tgt := 57) eX3_setMembers_53 (by decide) ?_
      exact q_zret eX3_setMembers_57 rfl rfl
    · refine q_iconst eX3_setMembers_56 kiconst_0 ?_
      exact q_zret eX3_setMembers_57 rfl rfl
  · refine q_aload_n 0 eX3_setMembers_24 rfl rfl ?_
    refine q_getG (v := 41) eX3_setMembers_25 fl_3_23 tC_37 rfl gC_37_7 ?_
    refine q_iload 3 eX3_setMembers_28 rfl ?_
    refine q_iload 2 eX3_setMembers_30 rfl ?_
    refine q_iload_n 1 eX3_setMembers_32 rfl rfl ?_
    refine q_irem eX3_setMembers_33 ?_
    refine q_iast eX3_setMembers_34 tC_41 nC_41 ?_
    refine q_ltW (fun w1 => ?_)
    refine q_iload 2 eX3_setMembers_35 rfl ?_
    refine q_iload_n 1 eX3_setMembers_37 rfl rfl ?_
    refine q_idiv eX3_setMembers_38 ?_
    refine q_ltI (fun y2 => ?_)
    refine q_istore (lv' := [(4, .int y2), (0, .ref 37), (3, .int x3), (5, .int x5)]) eX3_setMembers_39 (by decide) rfl ?_
    refine q_ltE (fun y3 hy3 => ?_)
    refine q_iinc (v := y3) (lv' := [(5, .int y3), (4, .int y2), (0, .ref 37), (3, .int x3)]) 3 eX3_setMembers_41 rfl hy3 (by decide) rfl ?_
    refine q_goto (tgt := 19) eX3_setMembers_44 (by decide) ?_
    exact q_sub [2, 3, 1, 0] rfl (hr19 x3 y2 y3 w1)
set_option maxHeartbeats 4000000 in
set_option maxRecDepth 100000 in
theorem jX3_setMembers_l19 (X : q_X) (l : Launch) : ∀ x3 x4 x5 w, q_J X S_C l mX3_setMembers 0 q_tI 19 [(0, .ref 37), (3, .int x3), (4, .int x4), (5, .int x5)] [] w (fX3_setMembers_l19 x3 x4 x5 w) := by
  exact q_it_ind (fun rc => ∀ x3 x4 x5 w, q_J X S_C l mX3_setMembers 0 q_tI 19 [(0, .ref 37), (3, .int x3), (4, .int x4), (5, .int x5)] [] w (rc x3 x4 x5 w)) _ _ (fun _ _ _ _ => q_none) (fun rc hrc => jX3_setMembers_h19 X l rc hrc) q_N
def fX3_setMembers (a1 : Int32) (a2 : Int32) (a3 : Int32) (w : q_W) : Option (Int32 × q_W) :=
  if a3 ≤ 0 then
    some (0, w)
  else
    if a2 ≤ 3 then
      q_lt (a2 - 1) fun y1 =>
      fX3_setMembers_l19 a3 a1 y1 w
    else
      some (0, w)
set_option maxHeartbeats 4000000 in
set_option maxRecDepth 100000 in
theorem kX3_setMembers (X : q_X) (l : Launch) (a1 : Int32) (a2 : Int32) (a3 : Int32) (w : q_W) : q_Ct X S_C l mX3_setMembers 0 q_tI [.ref 37, .int a1, .int a2, .int a3] w (fX3_setMembers a1 a2 a3 w) := by
  refine q_intro (lv := [(0, .ref 37), (1, .int a1), (2, .int a2), (3, .int a3)]) (by decide +kernel) rfl (Nat.le_of_ble_eq_true rfl) rfl ?_
  refine q_iload_n 3 eX3_setMembers_0 rfl rfl ?_
  refine q_if_le (tgt := 9) eX3_setMembers_1 (by decide) (fun _ => ?_) (fun _ => ?_)
  · refine q_iconst eX3_setMembers_9 kiconst_0 ?_
    exact q_zret eX3_setMembers_10 rfl rfl
  · refine q_iload_n 2 eX3_setMembers_4 rfl rfl ?_
    refine q_iconst eX3_setMembers_5 kiconst_3 ?_
    refine q_icmp_le (tgt := 11) eX3_setMembers_6 (by decide) (fun _ => ?_) (fun _ => ?_)
    · refine q_iload_n 1 eX3_setMembers_11 rfl rfl ?_
      refine q_istore (lv' := [(4, .int a1), (0, .ref 37), (1, .int a1), (2, .int a2), (3, .int a3)]) eX3_setMembers_12 (by decide) rfl ?_
      refine q_iload_n 3 eX3_setMembers_14 rfl rfl ?_
      refine q_iconst eX3_setMembers_15 kiconst_1 ?_
      refine q_isub eX3_setMembers_16 ?_
      refine q_ltI (fun y1 => ?_)
      refine q_istore (lv' := [(5, .int y1), (4, .int a1), (0, .ref 37), (1, .int a1), (2, .int a2), (3, .int a3)]) eX3_setMembers_17 (by decide) rfl ?_
      exact q_sub [2, 5, 1, 0] rfl (jX3_setMembers_l19 X l a3 a1 y1 w)
    · refine q_iconst eX3_setMembers_9 kiconst_0 ?_
      exact q_zret eX3_setMembers_10 rfl rfl
def fX3_seekRow_n110 (q1 : Nat) (rec29 : Int32 → Int32 → Int32 → Int32 → Int32 → q_W → Option (Int32 × q_W)) (rec47 : Int32 → Int32 → Int32 → Int32 → Int32 → Int32 → q_W → Option (Int32 × q_W)) (x2 : Int32) (x3 : Int32) (x4 : Int32) (x5 : Int32) (x6 : Int32) (x7 : Int32) (w : q_W) : Option (Int32 × q_W) :=
  q_lt (x7 + 1) fun y1 =>
  rec47 x2 x3 x4 x5 x6 y1 w
set_option maxHeartbeats 4000000 in
set_option maxRecDepth 100000 in
theorem jX3_seekRow_n110 (X : q_X) (l : Launch) (q1 : Nat) (h1 : cC q1 = 4) (rec29 : Int32 → Int32 → Int32 → Int32 → Int32 → q_W → Option (Int32 × q_W)) (rec47 : Int32 → Int32 → Int32 → Int32 → Int32 → Int32 → q_W → Option (Int32 × q_W)) (hr29 : ∀ x2 x3 x4 x5 x6 w, q_J X S_C l mX3_seekRow 6 q_tI 29 [(0, .ref 37), (1, .ref q1), (2, .int x2), (3, .int x3), (4, .int x4), (5, .int x5), (6, .int x6)] [] w (rec29 x2 x3 x4 x5 x6 w)) (hr47 : ∀ x2 x3 x4 x5 x6 x7 w, q_J X S_C l mX3_seekRow 6 q_tI 47 [(0, .ref 37), (1, .ref q1), (2, .int x2), (3, .int x3), (4, .int x4), (5, .int x5), (6, .int x6), (7, .int x7)] [] w (rec47 x2 x3 x4 x5 x6 x7 w)) (x2 : Int32) (x3 : Int32) (x4 : Int32) (x5 : Int32) (x6 : Int32) (x7 : Int32) (w : q_W) : q_J X S_C l mX3_seekRow 6 q_tI 110 [(0, .ref 37), (1, .ref q1), (2, .int x2), (3, .int x3), (4, .int x4), (5, .int x5), (6, .int x6), (7, .int x7)] [] w (fX3_seekRow_n110 q1 rec29 rec47 x2 x3 x4 x5 x6 x7 w) := by
  refine q_ltE (fun y1 hy1 => ?_)
  refine q_iinc (v := y1) (lv' := [(7, .int y1), (0, .ref 37), (1, .ref q1), (2, .int x2), (3, .int x3), (4, .int x4), (5, .int x5), (6, .int x6)]) 7 eX3_seekRow_110 rfl hy1 (by decide) rfl ?_
  refine q_goto (tgt := 47) eX3_seekRow_113 (by decide) ?_
  exact q_sub [1, 2, 3, 4, 5, 6, 7, 0] rfl (hr47 x2 x3 x4 x5 x6 y1 w)
def fX3_seekRow_h47 (q1 : Nat) (rec29 : Int32 → Int32 → Int32 → Int32 → Int32 → q_W → Option (Int32 × q_W)) (rec47 : Int32 → Int32 → Int32 → Int32 → Int32 → Int32 → q_W → Option (Int32 × q_W)) (x2 : Int32) (x3 : Int32) (x4 : Int32) (x5 : Int32) (x6 : Int32) (x7 : Int32) (w : q_W) : Option (Int32 × q_W) :=
  if x4 ≤ x7 then
    q_lt (x6 + 1) fun y1 =>
    rec29 x2 x3 x4 x5 y1 w
  else
    q_b (fX4_size q1 w) fun r2 w3 =>
    q_b (fX3_setMembers x7 x6 r2 w3) fun r4 w5 =>
    if r4 = 0 then
      fX3_seekRow_n110 q1 rec29 rec47 x2 x3 x4 x5 x6 x7 w5
    else
      q_b (fX3_holdsTogether x6 w5) fun r6 w7 =>
      if r6 = 0 then
        fX3_seekRow_n110 q1 rec29 rec47 x2 x3 x4 x5 x6 x7 w7
      else
        q_b (fX3_pickMembers x6 x2 w7) fun r8 w9 =>
        q_b (fX8_unlikeUpTo 14 x5 w9) fun r10 w11 =>
        if x3 < r10 then
          fX3_seekRow_n110 q1 rec29 rec47 x2 x3 x4 x5 x6 x7 w11
        else
          q_b (fX3_keepFound x6 w11) fun r12 w13 =>
          some (1, w13)
def fX3_seekRow_l47 (q1 : Nat) (rec29 : Int32 → Int32 → Int32 → Int32 → Int32 → q_W → Option (Int32 × q_W)) : Int32 → Int32 → Int32 → Int32 → Int32 → Int32 → q_W → Option (Int32 × q_W) := q_it q_N (fX3_seekRow_h47 q1 rec29) (fun _ _ _ _ _ _ _ => none)
set_option maxHeartbeats 4000000 in
set_option maxRecDepth 100000 in
theorem jX3_seekRow_h47 (X : q_X) (l : Launch) (q1 : Nat) (h1 : cC q1 = 4) (rec29 : Int32 → Int32 → Int32 → Int32 → Int32 → q_W → Option (Int32 × q_W)) (hr29 : ∀ x2 x3 x4 x5 x6 w, q_J X S_C l mX3_seekRow 6 q_tI 29 [(0, .ref 37), (1, .ref q1), (2, .int x2), (3, .int x3), (4, .int x4), (5, .int x5), (6, .int x6)] [] w (rec29 x2 x3 x4 x5 x6 w)) (rec47 : Int32 → Int32 → Int32 → Int32 → Int32 → Int32 → q_W → Option (Int32 × q_W)) (hr47 : ∀ x2 x3 x4 x5 x6 x7 w, q_J X S_C l mX3_seekRow 6 q_tI 47 [(0, .ref 37), (1, .ref q1), (2, .int x2), (3, .int x3), (4, .int x4), (5, .int x5), (6, .int x6), (7, .int x7)] [] w (rec47 x2 x3 x4 x5 x6 x7 w)) : ∀ x2 x3 x4 x5 x6 x7 w, q_J X S_C l mX3_seekRow 6 q_tI 47 [(0, .ref 37), (1, .ref q1), (2, .int x2), (3, .int x3), (4, .int x4), (5, .int x5), (6, .int x6), (7, .int x7)] [] w (fX3_seekRow_h47 q1 rec29 rec47 x2 x3 x4 x5 x6 x7 w) := by
  intro x2 x3 x4 x5 x6 x7 w
  refine q_iload 7 eX3_seekRow_47 rfl ?_
  refine q_iload 4 eX3_seekRow_49 rfl ?_
  refine q_icmp_ge (tgt := 116) eX3_seekRow_51 (by decide) (fun _ => ?_) (fun _ => ?_)
  · refine q_ltE (fun y1 hy1 => ?_)
    refine q_iinc (v := y1) (lv' := [(6, .int y1), (0, .ref 37), (1, .ref q1), (2, .int x2), (3, .int x3), (4, .int x4), (5, .int x5), (7, .int x7)]) 6 eX3_seekRow_116 rfl hy1 (by decide) rfl ?_
    refine q_goto (tgt := 29) eX3_seekRow_119 (by decide) ?_
    exact q_sub [1, 2, 3, 4, 5, 6, 0] rfl (hr29 x2 x3 x4 x5 y1 w)
  · refine q_aload_n 0 eX3_seekRow_54 rfl rfl ?_
    refine q_iload 7 eX3_seekRow_55 rfl ?_
    refine q_iload 6 eX3_seekRow_57 rfl ?_
    refine q_aload_n 1 eX3_seekRow_59 rfl rfl ?_
    refine q_callVI (As := []) (st := [.int x6, .int x7, .ref 37]) eX3_seekRow_60 cv_3_57 (kX4_size X l q1 w) h1 rfl (by decide) rfl rfl (Nat.le_of_ble_eq_true rfl) (by decide) (fun r2 w3 => ?_)
    refine q_callVI (As := [.int x7, .int x6, .int r2]) (st := []) eX3_seekRow_63 cv_3_102 (kX3_setMembers X l x7 x6 r2 w3) tC_37 rfl (by decide) rfl rfl (Nat.le_of_ble_eq_true rfl) (by decide) (fun r4 w5 => ?_)
    refine q_if_eq (tgt := 110) eX3_seekRow_66 (by decide) (fun _ => ?_) (fun _ => ?_)
    · exact q_sub [0, 1, 2, 3, 4, 5, 6, 7] rfl (jX3_seekRow_n110 X l q1 h1 rec29 rec47 hr29 hr47 x2 x3 x4 x5 x6 x7 w5)
    · refine q_aload_n 0 eX3_seekRow_69 rfl rfl ?_
      refine q_iload 6 eX3_seekRow_70 rfl ?_
      refine q_callVI (As := [.int x6]) (st := []) eX3_seekRow_72 cv_3_106 (kX3_holdsTogether X l x6 w5) tC_37 rfl (by decide) rfl rfl (Nat.le_of_ble_eq_true rfl) (by decide) (fun r6 w7 => ?_)
      refine q_if_eq (tgt := 110) eX3_seekRow_75 (by decide) (fun _ => ?_) (fun _ => ?_)
      · exact q_sub [0, 1, 2, 3, 4, 5, 6, 7] rfl (jX3_seekRow_n110 X l q1 h1 rec29 rec47 hr29 hr47 x2 x3 x4 x5 x6 x7 w7)
      · refine q_aload_n 0 eX3_seekRow_78 rfl rfl ?_
        refine q_iload 6 eX3_seekRow_79 rfl ?_
        refine q_iload_n 2 eX3_seekRow_81 rfl rfl ?_
        refine q_callVV (As := [.int x6, .int x2]) (st := []) eX3_seekRow_82 cv_3_110 (kX3_pickMembers X l x6 x2 w7) tC_37 rfl (by decide) rfl rfl (Nat.le_of_ble_eq_true rfl) (by decide) (fun r8 w9 => ?_)
        refine q_aload_n 0 eX3_seekRow_85 rfl rfl ?_
        refine q_getG (v := 14) eX3_seekRow_86 fl_3_41 tC_37 rfl gC_37_3 ?_
        refine q_iload 5 eX3_seekRow_89 rfl ?_
        refine q_aload_n 0 eX3_seekRow_91 rfl rfl ?_
        refine q_getG (v := 12) eX3_seekRow_92 fl_3_37 tC_37 rfl gC_37_2 ?_
        refine q_callVI (As := [.int x5, .ref 12]) (st := []) eX3_seekRow_95 cv_3_91 (kX8_unlikeUpTo X l 14 x5 w9) tC_14 rfl (by decide) rfl rfl (Nat.le_of_ble_eq_true rfl) (by decide) (fun r10 w11 => ?_)
        refine q_iload_n 3 eX3_seekRow_98 rfl rfl ?_
        refine q_icmp_gt (tgt := 110) eX3_seekRow_99 (by decide) (fun _ => ?_) (fun _ => ?_)
        · exact q_sub [0, 1, 2, 3, 4, 5, 6, 7] rfl (jX3_seekRow_n110 X l q1 h1 rec29 rec47 hr29 hr47 x2 x3 x4 x5 x6 x7 w11)
        · refine q_aload_n 0 eX3_seekRow_102 rfl rfl ?_
          refine q_iload 6 eX3_seekRow_103 rfl ?_
          refine q_callVV (As := [.int x6]) (st := []) eX3_seekRow_105 cv_3_113 (kX3_keepFound X l x6 w11) tC_37 rfl (by decide) rfl rfl (Nat.le_of_ble_eq_true rfl) (by decide) (fun r12 w13 => ?_)
          refine q_iconst eX3_seekRow_108 kiconst_1 ?_
          exact q_zret eX3_seekRow_109 rfl rfl
set_option maxHeartbeats 4000000 in
set_option maxRecDepth 100000 in
theorem jX3_seekRow_l47 (X : q_X) (l : Launch) (q1 : Nat) (h1 : cC q1 = 4) (rec29 : Int32 → Int32 → Int32 → Int32 → Int32 → q_W → Option (Int32 × q_W)) (hr29 : ∀ x2 x3 x4 x5 x6 w, q_J X S_C l mX3_seekRow 6 q_tI 29 [(0, .ref 37), (1, .ref q1), (2, .int x2), (3, .int x3), (4, .int x4), (5, .int x5), (6, .int x6)] [] w (rec29 x2 x3 x4 x5 x6 w)) : ∀ x2 x3 x4 x5 x6 x7 w, q_J X S_C l mX3_seekRow 6 q_tI 47 [(0, .ref 37), (1, .ref q1), (2, .int x2), (3, .int x3), (4, .int x4), (5, .int x5), (6, .int x6), (7, .int x7)] [] w (fX3_seekRow_l47 q1 rec29 x2 x3 x4 x5 x6 x7 w) := by
  exact q_it_ind (fun rc => ∀ x2 x3 x4 x5 x6 x7 w, q_J X S_C l mX3_seekRow 6 q_tI 47 [(0, .ref 37), (1, .ref q1), (2, .int x2), (3, .int x3), (4, .int x4), (5, .int x5), (6, .int x6), (7, .int x7)] [] w (rc x2 x3 x4 x5 x6 x7 w)) _ _ (fun _ _ _ _ _ _ _ => q_none) (fun rc hrc => jX3_seekRow_h47 X l q1 h1 rec29 hr29 rc hrc) q_N
def fX3_seekRow_h29 (q1 : Nat) (rec29 : Int32 → Int32 → Int32 → Int32 → Int32 → q_W → Option (Int32 × q_W)) (x2 : Int32) (x3 : Int32) (x4 : Int32) (x5 : Int32) (x6 : Int32) (w : q_W) : Option (Int32 × q_W) :=
  if 3 < x6 then
    some (0, w)
  else
    q_b (fX4_size q1 w) fun r1 w2 =>
    q_lt (x4 * r1) fun y3 =>
    fX3_seekRow_l47 q1 rec29 x2 x3 y3 x5 x6 0 w2
def fX3_seekRow_l29 (q1 : Nat) : Int32 → Int32 → Int32 → Int32 → Int32 → q_W → Option (Int32 × q_W) := q_it q_N (fX3_seekRow_h29 q1) (fun _ _ _ _ _ _ => none)
set_option maxHeartbeats 4000000 in
set_option maxRecDepth 100000 in
theorem jX3_seekRow_h29 (X : q_X) (l : Launch) (q1 : Nat) (h1 : cC q1 = 4) (rec29 : Int32 → Int32 → Int32 → Int32 → Int32 → q_W → Option (Int32 × q_W)) (hr29 : ∀ x2 x3 x4 x5 x6 w, q_J X S_C l mX3_seekRow 6 q_tI 29 [(0, .ref 37), (1, .ref q1), (2, .int x2), (3, .int x3), (4, .int x4), (5, .int x5), (6, .int x6)] [] w (rec29 x2 x3 x4 x5 x6 w)) : ∀ x2 x3 x4 x5 x6 w, q_J X S_C l mX3_seekRow 6 q_tI 29 [(0, .ref 37), (1, .ref q1), (2, .int x2), (3, .int x3), (4, .int x4), (5, .int x5), (6, .int x6)] [] w (fX3_seekRow_h29 q1 rec29 x2 x3 x4 x5 x6 w) := by
  intro x2 x3 x4 x5 x6 w
  refine q_iload 6 eX3_seekRow_29 rfl ?_
  refine q_iconst eX3_seekRow_31 kiconst_3 ?_
  refine q_icmp_gt (tgt := 122) eX3_seekRow_32 (by decide) (fun _ => ?_) (fun _ => ?_)
  · refine q_iconst eX3_seekRow_122 kiconst_0 ?_
    exact q_zret eX3_seekRow_123 rfl rfl
  · refine q_iload 4 eX3_seekRow_35 rfl ?_
    refine q_aload_n 1 eX3_seekRow_37 rfl rfl ?_
    refine q_callVI (As := []) (st := [.int x4]) eX3_seekRow_38 cv_3_57 (kX4_size X l q1 w) h1 rfl (by decide) rfl rfl (Nat.le_of_ble_eq_true rfl) (by decide) (fun r1 w2 => ?_)
    refine q_imul eX3_seekRow_41 ?_
    refine q_ltI (fun y3 => ?_)
    refine q_istore (lv' := [(4, .int y3), (0, .ref 37), (1, .ref q1), (2, .int x2), (3, .int x3), (5, .int x5), (6, .int x6)]) eX3_seekRow_42 (by decide) rfl ?_
    refine q_iconst eX3_seekRow_44 kiconst_0 ?_
    refine q_istore (lv' := [(7, .int 0), (4, .int y3), (0, .ref 37), (1, .ref q1), (2, .int x2), (3, .int x3), (5, .int x5), (6, .int x6)]) eX3_seekRow_45 (by decide) rfl ?_
    exact q_sub [2, 3, 4, 5, 1, 6, 7, 0] rfl (jX3_seekRow_l47 X l q1 h1 rec29 hr29 x2 x3 y3 x5 x6 0 w2)
set_option maxHeartbeats 4000000 in
set_option maxRecDepth 100000 in
theorem jX3_seekRow_l29 (X : q_X) (l : Launch) (q1 : Nat) (h1 : cC q1 = 4) : ∀ x2 x3 x4 x5 x6 w, q_J X S_C l mX3_seekRow 6 q_tI 29 [(0, .ref 37), (1, .ref q1), (2, .int x2), (3, .int x3), (4, .int x4), (5, .int x5), (6, .int x6)] [] w (fX3_seekRow_l29 q1 x2 x3 x4 x5 x6 w) := by
  exact q_it_ind (fun rc => ∀ x2 x3 x4 x5 x6 w, q_J X S_C l mX3_seekRow 6 q_tI 29 [(0, .ref 37), (1, .ref q1), (2, .int x2), (3, .int x3), (4, .int x4), (5, .int x5), (6, .int x6)] [] w (rc x2 x3 x4 x5 x6 w)) _ _ (fun _ _ _ _ _ _ => q_none) (fun rc hrc => jX3_seekRow_h29 X l q1 h1 rc hrc) q_N
def fX3_seekRow_n24 (q1 : Nat) (x2 : Int32) (x3 : Int32) (x4 : Int32) (s0 : Int32) (w : q_W) : Option (Int32 × q_W) :=
  fX3_seekRow_l29 q1 x2 x3 x4 s0 1 w
set_option maxHeartbeats 4000000 in
set_option maxRecDepth 100000 in
theorem jX3_seekRow_n24 (X : q_X) (l : Launch) (q1 : Nat) (h1 : cC q1 = 4) (x2 : Int32) (x3 : Int32) (x4 : Int32) (s0 : Int32) (w : q_W) : q_J X S_C l mX3_seekRow 6 q_tI 24 [(0, .ref 37), (1, .ref q1), (2, .int x2), (3, .int x3), (4, .int x4)] [.int s0] w (fX3_seekRow_n24 q1 x2 x3 x4 s0 w) := by
  refine q_istore (lv' := [(5, .int s0), (0, .ref 37), (1, .ref q1), (2, .int x2), (3, .int x3), (4, .int x4)]) eX3_seekRow_24 (by decide) rfl ?_
  refine q_iconst eX3_seekRow_26 kiconst_1 ?_
  refine q_istore (lv' := [(6, .int 1), (5, .int s0), (0, .ref 37), (1, .ref q1), (2, .int x2), (3, .int x3), (4, .int x4)]) eX3_seekRow_27 (by decide) rfl ?_
  exact q_sub [2, 3, 4, 5, 6, 1, 0] rfl (jX3_seekRow_l29 X l q1 h1 x2 x3 x4 s0 1 w)
def fX3_seekRow (q1 : Nat) (a2 : Int32) (a3 : Int32) (w : q_W) : Option (Int32 × q_W) :=
  if cC q1 = 4 then
  q_b (fX3_doEach q1 w) fun r1 w2 =>
  if 256 ≤ a3 then
    fX3_seekRow_n24 q1 a2 a3 1 256 w2
  else
    fX3_seekRow_n24 q1 a2 a3 1 (a3 + 1) w2
  else none
set_option maxHeartbeats 4000000 in
set_option maxRecDepth 100000 in
theorem kX3_seekRow (X : q_X) (l : Launch) (q1 : Nat) (a2 : Int32) (a3 : Int32) (w : q_W) : q_Ct X S_C l mX3_seekRow 6 q_tI [.ref 37, .ref q1, .int a2, .int a3] w (fX3_seekRow q1 a2 a3 w) := by
  refine q_intro (lv := [(0, .ref 37), (1, .ref q1), (2, .int a2), (3, .int a3)]) (by decide +kernel) rfl (Nat.le_of_ble_eq_true rfl) rfl ?_
  refine q_ck (fun h1 => ?_)
  refine q_aload_n 0 eX3_seekRow_0 rfl rfl ?_
  refine q_aload_n 1 eX3_seekRow_1 rfl rfl ?_
  refine q_callVV (As := [.ref q1]) (st := []) eX3_seekRow_2 cv_3_98 (kX3_doEach X l q1 w) tC_37 rfl (by decide) rfl rfl (Nat.le_of_ble_eq_true rfl) (by decide) (fun r1 w2 => ?_)
  refine q_iconst eX3_seekRow_5 kiconst_1 ?_
  refine q_istore (lv' := [(4, .int 1), (0, .ref 37), (1, .ref q1), (2, .int a2), (3, .int a3)]) eX3_seekRow_6 (by decide) rfl ?_
  refine q_iload_n 4 eX3_seekRow_8 rfl rfl ?_
  refine q_sipush eX3_seekRow_9 ksipush_256 ?_
  refine q_icmp_ge (tgt := 21) eX3_seekRow_12 (by decide) (fun _ => ?_) (fun _ => ?_)
  · refine q_sipush eX3_seekRow_21 ksipush_256 ?_
    exact q_sub [1, 2, 3, 4, 0] rfl (jX3_seekRow_n24 X l q1 h1 a2 a3 1 256 w2)
  · refine q_iload_n 4 eX3_seekRow_15 rfl rfl ?_
    refine q_iconst eX3_seekRow_16 kiconst_1 ?_
    refine q_iadd eX3_seekRow_17 ?_
    refine q_goto (tgt := 24) eX3_seekRow_18 (by decide) ?_
    exact q_sub [1, 2, 3, 4, 0] rfl (jX3_seekRow_n24 X l q1 h1 a2 a3 1 (a3 + 1) w2)
def fX4_clear (q0 : Nat) (w : q_W) : Option (Unit × q_W) :=
  if cC q0 = 4 then
  q_lt (q_sI w q0 3 0) fun w1 =>
  q_lt (q_sI w1 q0 4 0) fun w2 =>
  some ((), w2)
  else none
set_option maxHeartbeats 4000000 in
set_option maxRecDepth 100000 in
theorem kX4_clear (X : q_X) (l : Launch) (q0 : Nat) (w : q_W) : q_Ct X S_C l mX4_clear 0 q_tV [.ref q0] w (fX4_clear q0 w) := by
  refine q_intro (lv := [(0, .ref q0)]) (by decide +kernel) rfl (Nat.le_of_ble_eq_true rfl) rfl ?_
  refine q_ck (fun h0 => ?_)
  refine q_aload_n 0 eX4_clear_0 rfl rfl ?_
  refine q_iconst eX4_clear_1 kiconst_0 ?_
  refine q_putI eX4_clear_2 fp_4_19 h0 rfl ⟨rfl, rfl⟩ ?_
  refine q_ltW (fun w1 => ?_)
  refine q_aload_n 0 eX4_clear_5 rfl rfl ?_
  refine q_iconst eX4_clear_6 kiconst_0 ?_
  refine q_putI eX4_clear_7 fp_4_23 h0 rfl ⟨rfl, rfl⟩ ?_
  refine q_ltW (fun w2 => ?_)
  exact q_return eX4_clear_10 rfl
def fX4_open (q0 : Nat) (a1 : Int32) (w : q_W) : Option (Unit × q_W) :=
  if cC q0 = 4 then
  if (w.1 q0 4) < 0 then
    some ((), w)
  else
    if 8 ≤ (w.1 q0 4) then
      some ((), w)
    else
      q_lt (w.1 q0 4) fun y1 =>
      if q_inb y1 8 then
      q_lt (q_sI w (fC q0 1) (q_ix y1) (w.1 q0 3)) fun w2 =>
      q_lt (w2.1 q0 4) fun y3 =>
      if q_inb y3 8 then
      q_lt (q_sI w2 (fC q0 2) (q_ix y3) a1) fun w4 =>
      some ((), w4)
      else none
      else none
  else none
set_option maxHeartbeats 4000000 in
set_option maxRecDepth 100000 in
theorem kX4_open (X : q_X) (l : Launch) (q0 : Nat) (a1 : Int32) (w : q_W) : q_Ct X S_C l mX4_open 0 q_tV [.ref q0, .int a1] w (fX4_open q0 a1 w) := by
  refine q_intro (lv := [(0, .ref q0), (1, .int a1)]) (by decide +kernel) rfl (Nat.le_of_ble_eq_true rfl) rfl ?_
  refine q_ck (fun h0 => ?_)
  refine q_aload_n 0 eX4_open_0 rfl rfl ?_
  refine q_getI eX4_open_1 fl_4_23 h0 rfl ?_
  refine q_if_lt (tgt := 39) eX4_open_4 (by decide) (fun _ => ?_) (fun _ => ?_)
  · exact q_return eX4_open_39 rfl
  · refine q_aload_n 0 eX4_open_7 rfl rfl ?_
    refine q_getI eX4_open_8 fl_4_23 h0 rfl ?_
    refine q_bipush eX4_open_11 kbipush_8 ?_
    refine q_icmp_ge (tgt := 39) eX4_open_13 (by decide) (fun _ => ?_) (fun _ => ?_)
    · exact q_return eX4_open_39 rfl
    · refine q_aload_n 0 eX4_open_16 rfl rfl ?_
      refine q_getG (v := (fC q0 1)) eX4_open_17 fl_4_13 h0 rfl rfl ?_
      refine q_aload_n 0 eX4_open_20 rfl rfl ?_
      refine q_getI eX4_open_21 fl_4_23 h0 rfl ?_
      refine q_aload_n 0 eX4_open_24 rfl rfl ?_
      refine q_getI eX4_open_25 fl_4_19 h0 rfl ?_
      refine q_ltI1 (fun y1 => ?_)
      refine q_iast eX4_open_28 (fxC_4_1 q0 h0) (flC_4_1 q0 h0) ?_
      refine q_ltW (fun w2 => ?_)
      refine q_aload_n 0 eX4_open_29 rfl rfl ?_
      refine q_getG (v := (fC q0 2)) eX4_open_30 fl_4_16 h0 rfl rfl ?_
      refine q_aload_n 0 eX4_open_33 rfl rfl ?_
      refine q_getI eX4_open_34 fl_4_23 h0 rfl ?_
      refine q_iload_n 1 eX4_open_37 rfl rfl ?_
      refine q_ltI1 (fun y3 => ?_)
      refine q_iast eX4_open_38 (fxC_4_2 q0 h0) (flC_4_2 q0 h0) ?_
      refine q_ltW (fun w4 => ?_)
      exact q_return eX4_open_39 rfl
def fX4_close (q0 : Nat) (w : q_W) : Option (Unit × q_W) :=
  if cC q0 = 4 then
  if 8 ≤ (w.1 q0 4) then
    some ((), w)
  else
    q_lt (q_sI w q0 4 ((w.1 q0 4) + 1)) fun w1 =>
    some ((), w1)
  else none
set_option maxHeartbeats 4000000 in
set_option maxRecDepth 100000 in
theorem kX4_close (X : q_X) (l : Launch) (q0 : Nat) (w : q_W) : q_Ct X S_C l mX4_close 0 q_tV [.ref q0] w (fX4_close q0 w) := by
  refine q_intro (lv := [(0, .ref q0)]) (by decide +kernel) rfl (Nat.le_of_ble_eq_true rfl) rfl ?_
  refine q_ck (fun h0 => ?_)
  refine q_aload_n 0 eX4_close_0 rfl rfl ?_
  refine q_getI eX4_close_1 fl_4_23 h0 rfl ?_
  refine q_bipush eX4_close_4 kbipush_8 ?_
  refine q_icmp_ge (tgt := 19) eX4_close_6 (by decide) (fun _ => ?_) (fun _ => ?_)
  · exact q_return eX4_close_19 rfl
  · refine q_aload_n 0 eX4_close_9 rfl rfl ?_
    refine q_dup eX4_close_10 rfl ?_
    refine q_getI eX4_close_11 fl_4_23 h0 rfl ?_
    refine q_iconst eX4_close_14 kiconst_1 ?_
    refine q_iadd eX4_close_15 ?_
    refine q_putI eX4_close_16 fp_4_23 h0 rfl ⟨rfl, rfl⟩ ?_
    refine q_ltW (fun w1 => ?_)
    exact q_return eX4_close_19 rfl
def fX4_here (q0 : Nat) (w : q_W) : Option (Int32 × q_W) :=
  if cC q0 = 4 then
  some ((w.1 q0 3), w)
  else none
set_option maxHeartbeats 4000000 in
set_option maxRecDepth 100000 in
theorem kX4_here (X : q_X) (l : Launch) (q0 : Nat) (w : q_W) : q_Ct X S_C l mX4_here 0 q_tI [.ref q0] w (fX4_here q0 w) := by
  refine q_intro (lv := [(0, .ref q0)]) (by decide +kernel) rfl (Nat.le_of_ble_eq_true rfl) rfl ?_
  refine q_ck (fun h0 => ?_)
  refine q_aload_n 0 eX4_here_0 rfl rfl ?_
  refine q_getI eX4_here_1 fl_4_19 h0 rfl ?_
  exact q_ireturn eX4_here_4 rfl
def fX4_add (q0 : Nat) (a1 : Int32) (w : q_W) : Option (Unit × q_W) :=
  if cC q0 = 4 then
  if (w.1 q0 3) < 0 then
    some ((), w)
  else
    if 2000 ≤ (w.1 q0 3) then
      some ((), w)
    else
      q_lt (w.1 q0 3) fun y1 =>
      if q_inb y1 2000 then
      q_lt (q_sI w (fC q0 0) (q_ix y1) a1) fun w2 =>
      q_lt (q_sI w2 q0 3 ((w2.1 q0 3) + 1)) fun w3 =>
      some ((), w3)
      else none
  else none
set_option maxHeartbeats 4000000 in
set_option maxRecDepth 100000 in
theorem kX4_add (X : q_X) (l : Launch) (q0 : Nat) (a1 : Int32) (w : q_W) : q_Ct X S_C l mX4_add 0 q_tV [.ref q0, .int a1] w (fX4_add q0 a1 w) := by
  refine q_intro (lv := [(0, .ref q0), (1, .int a1)]) (by decide +kernel) rfl (Nat.le_of_ble_eq_true rfl) rfl ?_
  refine q_ck (fun h0 => ?_)
  refine q_aload_n 0 eX4_add_0 rfl rfl ?_
  refine q_getI eX4_add_1 fl_4_19 h0 rfl ?_
  refine q_if_lt (tgt := 37) eX4_add_4 (by decide) (fun _ => ?_) (fun _ => ?_)
  · exact q_return eX4_add_37 rfl
  · refine q_aload_n 0 eX4_add_7 rfl rfl ?_
    refine q_getI eX4_add_8 fl_4_19 h0 rfl ?_
    refine q_sipush eX4_add_11 ksipush_2000 ?_
    refine q_icmp_ge (tgt := 37) eX4_add_14 (by decide) (fun _ => ?_) (fun _ => ?_)
    · exact q_return eX4_add_37 rfl
    · refine q_aload_n 0 eX4_add_17 rfl rfl ?_
      refine q_getG (v := (fC q0 0)) eX4_add_18 fl_4_9 h0 rfl rfl ?_
      refine q_aload_n 0 eX4_add_21 rfl rfl ?_
      refine q_getI eX4_add_22 fl_4_19 h0 rfl ?_
      refine q_iload_n 1 eX4_add_25 rfl rfl ?_
      refine q_ltI1 (fun y1 => ?_)
      refine q_iast eX4_add_26 (fxC_4_0 q0 h0) (flC_4_0 q0 h0) ?_
      refine q_ltW (fun w2 => ?_)
      refine q_aload_n 0 eX4_add_27 rfl rfl ?_
      refine q_dup eX4_add_28 rfl ?_
      refine q_getI eX4_add_29 fl_4_19 h0 rfl ?_
      refine q_iconst eX4_add_32 kiconst_1 ?_
      refine q_iadd eX4_add_33 ?_
      refine q_putI eX4_add_34 fp_4_19 h0 rfl ⟨rfl, rfl⟩ ?_
      refine q_ltW (fun w3 => ?_)
      exact q_return eX4_add_37 rfl
def fX4_add_ (q0 : Nat) (a1 : Int32) (a2 : Int32) (w : q_W) : Option (Unit × q_W) :=
  if cC q0 = 4 then
  q_b (fX4_add q0 a1 w) fun r1 w2 =>
  q_b (fX4_add q0 a2 w2) fun r3 w4 =>
  some ((), w4)
  else none
set_option maxHeartbeats 4000000 in
set_option maxRecDepth 100000 in
theorem kX4_add_ (X : q_X) (l : Launch) (q0 : Nat) (a1 : Int32) (a2 : Int32) (w : q_W) : q_Ct X S_C l mX4_add_ 1 q_tV [.ref q0, .int a1, .int a2] w (fX4_add_ q0 a1 a2 w) := by
  refine q_intro (lv := [(0, .ref q0), (1, .int a1), (2, .int a2)]) (by decide +kernel) rfl (Nat.le_of_ble_eq_true rfl) rfl ?_
  refine q_ck (fun h0 => ?_)
  refine q_aload_n 0 eX4_add__0 rfl rfl ?_
  refine q_iload_n 1 eX4_add__1 rfl rfl ?_
  refine q_callVV (As := [.int a1]) (st := []) eX4_add__2 cv_4_30 (kX4_add X l q0 a1 w) h0 rfl (by decide) rfl rfl (Nat.le_of_ble_eq_true rfl) (by decide) (fun r1 w2 => ?_)
  refine q_aload_n 0 eX4_add__5 rfl rfl ?_
  refine q_iload_n 2 eX4_add__6 rfl rfl ?_
  refine q_callVV (As := [.int a2]) (st := []) eX4_add__7 cv_4_30 (kX4_add X l q0 a2 w2) h0 rfl (by decide) rfl rfl (Nat.le_of_ble_eq_true rfl) (by decide) (fun r3 w4 => ?_)
  exact q_return eX4_add__10 rfl
def fX4_add__ (q0 : Nat) (a1 : Int32) (a2 : Int32) (a3 : Int32) (w : q_W) : Option (Unit × q_W) :=
  if cC q0 = 4 then
  q_b (fX4_add_ q0 a1 a2 w) fun r1 w2 =>
  q_b (fX4_add q0 a3 w2) fun r3 w4 =>
  some ((), w4)
  else none
set_option maxHeartbeats 4000000 in
set_option maxRecDepth 100000 in
theorem kX4_add__ (X : q_X) (l : Launch) (q0 : Nat) (a1 : Int32) (a2 : Int32) (a3 : Int32) (w : q_W) : q_Ct X S_C l mX4_add__ 2 q_tV [.ref q0, .int a1, .int a2, .int a3] w (fX4_add__ q0 a1 a2 a3 w) := by
  refine q_intro (lv := [(0, .ref q0), (1, .int a1), (2, .int a2), (3, .int a3)]) (by decide +kernel) rfl (Nat.le_of_ble_eq_true rfl) rfl ?_
  refine q_ck (fun h0 => ?_)
  refine q_aload_n 0 eX4_add___0 rfl rfl ?_
  refine q_iload_n 1 eX4_add___1 rfl rfl ?_
  refine q_iload_n 2 eX4_add___2 rfl rfl ?_
  refine q_callVV (As := [.int a1, .int a2]) (st := []) eX4_add___3 cv_4_34 (kX4_add_ X l q0 a1 a2 w) h0 rfl (by decide) rfl rfl (Nat.le_of_ble_eq_true rfl) (by decide) (fun r1 w2 => ?_)
  refine q_aload_n 0 eX4_add___6 rfl rfl ?_
  refine q_iload_n 3 eX4_add___7 rfl rfl ?_
  refine q_callVV (As := [.int a3]) (st := []) eX4_add___8 cv_4_30 (kX4_add X l q0 a3 w2) h0 rfl (by decide) rfl rfl (Nat.le_of_ble_eq_true rfl) (by decide) (fun r3 w4 => ?_)
  exact q_return eX4_add___11 rfl
def fX4_aimHere (q0 : Nat) (a1 : Int32) (w : q_W) : Option (Unit × q_W) :=
  if cC q0 = 4 then
  if a1 < 0 then
    some ((), w)
  else
    if 2000 ≤ a1 then
      some ((), w)
    else
      if q_inb a1 2000 then
      q_lt (q_sI w (fC q0 0) (q_ix a1) (w.1 q0 3)) fun w1 =>
      some ((), w1)
      else none
  else none
set_option maxHeartbeats 4000000 in
set_option maxRecDepth 100000 in
theorem kX4_aimHere (X : q_X) (l : Launch) (q0 : Nat) (a1 : Int32) (w : q_W) : q_Ct X S_C l mX4_aimHere 0 q_tV [.ref q0, .int a1] w (fX4_aimHere q0 a1 w) := by
  refine q_intro (lv := [(0, .ref q0), (1, .int a1)]) (by decide +kernel) rfl (Nat.le_of_ble_eq_true rfl) rfl ?_
  refine q_ck (fun h0 => ?_)
  refine q_iload_n 1 eX4_aimHere_0 rfl rfl ?_
  refine q_if_lt (tgt := 21) eX4_aimHere_1 (by decide) (fun _ => ?_) (fun _ => ?_)
  · exact q_return eX4_aimHere_21 rfl
  · refine q_iload_n 1 eX4_aimHere_4 rfl rfl ?_
    refine q_sipush eX4_aimHere_5 ksipush_2000 ?_
    refine q_icmp_ge (tgt := 21) eX4_aimHere_8 (by decide) (fun _ => ?_) (fun _ => ?_)
    · exact q_return eX4_aimHere_21 rfl
    · refine q_aload_n 0 eX4_aimHere_11 rfl rfl ?_
      refine q_getG (v := (fC q0 0)) eX4_aimHere_12 fl_4_9 h0 rfl rfl ?_
      refine q_iload_n 1 eX4_aimHere_15 rfl rfl ?_
      refine q_aload_n 0 eX4_aimHere_16 rfl rfl ?_
      refine q_getI eX4_aimHere_17 fl_4_19 h0 rfl ?_
      refine q_iast eX4_aimHere_20 (fxC_4_0 q0 h0) (flC_4_0 q0 h0) ?_
      refine q_ltW (fun w1 => ?_)
      exact q_return eX4_aimHere_21 rfl
def fX5_fail (a1 : Int32) (w : q_W) : Option (Unit × q_W) :=
  if (w.1 23 7) = 0 then
    q_lt (q_sI w 23 7 a1) fun w1 =>
    q_lt (q_sI w1 23 8 (w1.1 23 6)) fun w2 =>
    q_lt (q_sI w2 23 5 (-1)) fun w3 =>
    some ((), w3)
  else
    q_lt (q_sI w 23 5 (-1)) fun w4 =>
    some ((), w4)
set_option maxHeartbeats 4000000 in
set_option maxRecDepth 100000 in
theorem kX5_fail (X : q_X) (l : Launch) (a1 : Int32) (w : q_W) : q_Ct X S_C l mX5_fail 0 q_tV [.ref 23, .int a1] w (fX5_fail a1 w) := by
  refine q_intro (lv := [(0, .ref 23), (1, .int a1)]) (by decide +kernel) rfl (Nat.le_of_ble_eq_true rfl) rfl ?_
  refine q_aload_n 0 eX5_fail_0 rfl rfl ?_
  refine q_getI eX5_fail_1 fl_5_36 tC_23 rfl ?_
  refine q_if_ne (tgt := 20) eX5_fail_4 (by decide) (fun _ => ?_) (fun _ => ?_)
  · refine q_aload_n 0 eX5_fail_7 rfl rfl ?_
    refine q_iload_n 1 eX5_fail_8 rfl rfl ?_
    refine q_putI eX5_fail_9 fp_5_36 tC_23 rfl ⟨rfl, rfl⟩ ?_
    refine q_ltW (fun w1 => ?_)
    refine q_aload_n 0 eX5_fail_12 rfl rfl ?_
    refine q_aload_n 0 eX5_fail_13 rfl rfl ?_
    refine q_getI eX5_fail_14 fl_5_60 tC_23 rfl ?_
    refine q_putI eX5_fail_17 fp_5_73 tC_23 rfl ⟨rfl, rfl⟩ ?_
    refine q_ltW (fun w2 => ?_)
    refine q_aload_n 0 eX5_fail_20 rfl rfl ?_
    refine q_iconst eX5_fail_21 kiconst_m1 ?_
    refine q_putI eX5_fail_22 fp_5_54 tC_23 rfl ⟨rfl, rfl⟩ ?_
    refine q_ltW (fun w3 => ?_)
    exact q_return eX5_fail_25 rfl
  · refine q_aload_n 0 eX5_fail_20 rfl rfl ?_
    refine q_iconst eX5_fail_21 kiconst_m1 ?_
    refine q_putI eX5_fail_22 fp_5_54 tC_23 rfl ⟨rfl, rfl⟩ ?_
    refine q_ltW (fun w4 => ?_)
    exact q_return eX5_fail_25 rfl
def fX5_note_n31 (x1 : Int32) (x2 : Int32) (w : q_W) : Option (Unit × q_W) :=
  q_lt (q_sI w 23 9 x1) fun w1 =>
  q_lt (q_sI w1 23 10 x2) fun w2 =>
  some ((), w2)
set_option maxHeartbeats 4000000 in
set_option maxRecDepth 100000 in
theorem jX5_note_n31 (X : q_X) (l : Launch) (x1 : Int32) (x2 : Int32) (w : q_W) : q_J X S_C l mX5_note 0 q_tV 31 [(0, .ref 23), (1, .int x1), (2, .int x2)] [] w (fX5_note_n31 x1 x2 w) := by
  refine q_aload_n 0 eX5_note_31 rfl rfl ?_
  refine q_iload_n 1 eX5_note_32 rfl rfl ?_
  refine q_putI eX5_note_33 fp_5_40 tC_23 rfl ⟨rfl, rfl⟩ ?_
  refine q_ltW (fun w1 => ?_)
  refine q_aload_n 0 eX5_note_36 rfl rfl ?_
  refine q_iload_n 2 eX5_note_37 rfl rfl ?_
  refine q_putI eX5_note_38 fp_5_70 tC_23 rfl ⟨rfl, rfl⟩ ?_
  refine q_ltW (fun w2 => ?_)
  exact q_return eX5_note_41 rfl
def fX5_note (a1 : Int32) (a2 : Int32) (w : q_W) : Option (Unit × q_W) :=
  if (w.1 23 9) = 0 then
    fX5_note_n31 a1 a2 w
  else
    if a2 < (w.1 23 10) then
      fX5_note_n31 a1 a2 w
    else
      if a2 = (w.1 23 10) then
        if (w.1 23 9) ≤ a1 then
          some ((), w)
        else
          fX5_note_n31 a1 a2 w
      else
        some ((), w)
set_option maxHeartbeats 4000000 in
set_option maxRecDepth 100000 in
theorem kX5_note (X : q_X) (l : Launch) (a1 : Int32) (a2 : Int32) (w : q_W) : q_Ct X S_C l mX5_note 0 q_tV [.ref 23, .int a1, .int a2] w (fX5_note a1 a2 w) := by
  refine q_intro (lv := [(0, .ref 23), (1, .int a1), (2, .int a2)]) (by decide +kernel) rfl (Nat.le_of_ble_eq_true rfl) rfl ?_
  refine q_aload_n 0 eX5_note_0 rfl rfl ?_
  refine q_getI eX5_note_1 fl_5_40 tC_23 rfl ?_
  refine q_if_eq (tgt := 31) eX5_note_4 (by decide) (fun _ => ?_) (fun _ => ?_)
  · exact q_sub [0, 1, 2] rfl (jX5_note_n31 X l a1 a2 w)
  · refine q_iload_n 2 eX5_note_7 rfl rfl ?_
    refine q_aload_n 0 eX5_note_8 rfl rfl ?_
    refine q_getI eX5_note_9 fl_5_70 tC_23 rfl ?_
    refine q_icmp_lt (tgt := 31) eX5_note_12 (by decide) (fun _ => ?_) (fun _ => ?_)
    · exact q_sub [0, 1, 2] rfl (jX5_note_n31 X l a1 a2 w)
    · refine q_iload_n 2 eX5_note_15 rfl rfl ?_
      refine q_aload_n 0 eX5_note_16 rfl rfl ?_
      refine q_getI eX5_note_17 fl_5_70 tC_23 rfl ?_
      refine q_icmp_ne (tgt := 41) eX5_note_20 (by decide) (fun _ => ?_) (fun _ => ?_)
      · refine q_iload_n 1 eX5_note_23 rfl rfl ?_
        refine q_aload_n 0 eX5_note_24 rfl rfl ?_
        refine q_getI eX5_note_25 fl_5_40 tC_23 rfl ?_
        refine q_icmp_ge (tgt := 41) eX5_note_28 (by decide) (fun _ => ?_) (fun _ => ?_)
        · exact q_return eX5_note_41 rfl
        · exact q_sub [0, 1, 2] rfl (jX5_note_n31 X l a1 a2 w)
      · exact q_return eX5_note_41 rfl
def fX5_patternOf_h2 (rec2 : Int64 → Int32 → q_W → Option (Int32 × q_W)) (x1 : Int64) (x3 : Int32) (w : q_W) : Option (Int32 × q_W) :=
  if cC (w.2.1 23 11) = 4 then
  q_b (fX4_size (w.2.1 23 11) w) fun r2 w3 =>
  if r2 ≤ x3 then
    some ((-1), w3)
  else
    if 8 ≤ x3 then
      some ((-1), w3)
    else
      if q_inb x3 8 then
      if (lg_cmp (w3.2.2 29 (q_ix x3)) x1) = 0 then
        some (x3, w3)
      else
        q_lt (x3 + 1) fun y4 =>
        rec2 x1 y4 w3
      else none
  else none
def fX5_patternOf_l2 : Int64 → Int32 → q_W → Option (Int32 × q_W) := q_it q_N (fX5_patternOf_h2) (fun _ _ _ => none)
set_option maxHeartbeats 4000000 in
set_option maxRecDepth 100000 in
theorem jX5_patternOf_h2 (X : q_X) (l : Launch) (rec2 : Int64 → Int32 → q_W → Option (Int32 × q_W)) (hr2 : ∀ x1 x3 w, q_J X S_C l mX5_patternOf 1 q_tI 2 [(0, .ref 23), (1, .long x1), (3, .int x3)] [] w (rec2 x1 x3 w)) : ∀ x1 x3 w, q_J X S_C l mX5_patternOf 1 q_tI 2 [(0, .ref 23), (1, .long x1), (3, .int x3)] [] w (fX5_patternOf_h2 rec2 x1 x3 w) := by
  intro x1 x3 w
  refine q_iload_n 2 eX5_patternOf_2 rfl rfl ?_
  refine q_aload_n 0 eX5_patternOf_3 rfl rfl ?_
  refine q_getR eX5_patternOf_4 fl_5_29 tC_23 rfl ?_
  refine q_ck (fun g1 => ?_)
  refine q_callVI (As := []) (st := [.int x3]) eX5_patternOf_7 cv_5_76 (kX4_size X l (w.2.1 23 11) w) g1 rfl (by decide) rfl rfl (Nat.le_of_ble_eq_true rfl) (by decide) (fun r2 w3 => ?_)
  refine q_icmp_ge (tgt := 41) eX5_patternOf_10 (by decide) (fun _ => ?_) (fun _ => ?_)
  · refine q_iconst eX5_patternOf_41 kiconst_m1 ?_
    exact q_ireturn eX5_patternOf_42 rfl
  · refine q_iload_n 2 eX5_patternOf_13 rfl rfl ?_
    refine q_aload_n 0 eX5_patternOf_14 rfl rfl ?_
    refine q_getG (v := 29) eX5_patternOf_15 fl_5_20 tC_23 rfl gC_23_1 ?_
    refine q_alenL eX5_patternOf_18 tC_29 nC_29 ?_
    refine q_icmp_ge (tgt := 41) eX5_patternOf_19 (by decide) (fun _ => ?_) (fun _ => ?_)
    · refine q_iconst eX5_patternOf_41 kiconst_m1 ?_
      exact q_ireturn eX5_patternOf_42 rfl
    · refine q_aload_n 0 eX5_patternOf_22 rfl rfl ?_
      refine q_getG (v := 29) eX5_patternOf_23 fl_5_20 tC_23 rfl gC_23_1 ?_
      refine q_iload_n 2 eX5_patternOf_26 rfl rfl ?_
      refine q_lald eX5_patternOf_27 tC_29 nC_29 ?_
      refine q_lload_n 1 eX5_patternOf_28 rfl rfl ?_
      refine q_lcmp eX5_patternOf_29 ?_
      refine q_if_ne (tgt := 35) eX5_patternOf_30 (by decide) (fun _ => ?_) (fun _ => ?_)
      · refine q_iload_n 2 eX5_patternOf_33 rfl rfl ?_
        exact q_ireturn eX5_patternOf_34 rfl
      · refine q_ltE (fun y4 hy4 => ?_)
        refine q_iinc (v := y4) (lv' := [(3, .int y4), (0, .ref 23), (1, .long x1)]) 2 eX5_patternOf_35 rfl hy4 (by decide) rfl ?_
        refine q_goto (tgt := 2) eX5_patternOf_38 (by decide) ?_
        exact q_sub [1, 2, 0] rfl (hr2 x1 y4 w3)
set_option maxHeartbeats 4000000 in
set_option maxRecDepth 100000 in
theorem jX5_patternOf_l2 (X : q_X) (l : Launch) : ∀ x1 x3 w, q_J X S_C l mX5_patternOf 1 q_tI 2 [(0, .ref 23), (1, .long x1), (3, .int x3)] [] w (fX5_patternOf_l2 x1 x3 w) := by
  exact q_it_ind (fun rc => ∀ x1 x3 w, q_J X S_C l mX5_patternOf 1 q_tI 2 [(0, .ref 23), (1, .long x1), (3, .int x3)] [] w (rc x1 x3 w)) _ _ (fun _ _ _ => q_none) (fun rc hrc => jX5_patternOf_h2 X l rc hrc) q_N
def fX5_patternOf (a1 : Int64) (w : q_W) : Option (Int32 × q_W) :=
  fX5_patternOf_l2 a1 0 w
set_option maxHeartbeats 4000000 in
set_option maxRecDepth 100000 in
theorem kX5_patternOf (X : q_X) (l : Launch) (a1 : Int64) (w : q_W) : q_Ct X S_C l mX5_patternOf 1 q_tI [.ref 23, .long a1] w (fX5_patternOf a1 w) := by
  refine q_intro (lv := [(0, .ref 23), (1, .long a1)]) (by decide +kernel) rfl (Nat.le_of_ble_eq_true rfl) rfl ?_
  refine q_iconst eX5_patternOf_0 kiconst_0 ?_
  refine q_istore_n (lv' := [(3, .int 0), (0, .ref 23), (1, .long a1)]) eX5_patternOf_1 rfl (by decide) rfl ?_
  exact q_sub [1, 2, 0] rfl (jX5_patternOf_l2 X l a1 0 w)
def fX5_namePattern_n17 (x1 : Int64) (w : q_W) : Option (Unit × q_W) :=
  if cC (w.2.1 23 11) = 4 then
  q_b (fX4_size (w.2.1 23 11) w) fun r2 w3 =>
  if r2 < 0 then
    some ((), w3)
  else
    if 8 ≤ r2 then
      some ((), w3)
    else
      if q_inb r2 8 then
      q_lt (q_sL w3 29 (q_ix r2) x1) fun w4 =>
      some ((), w4)
      else none
  else none
set_option maxHeartbeats 4000000 in
set_option maxRecDepth 100000 in
theorem jX5_namePattern_n17 (X : q_X) (l : Launch) (x1 : Int64) (w : q_W) : q_J X S_C l mX5_namePattern 2 q_tV 17 [(0, .ref 23), (1, .long x1)] [] w (fX5_namePattern_n17 x1 w) := by
  refine q_aload_n 0 eX5_namePattern_17 rfl rfl ?_
  refine q_getR eX5_namePattern_18 fl_5_29 tC_23 rfl ?_
  refine q_ck (fun g1 => ?_)
  refine q_callVI (As := []) (st := []) eX5_namePattern_21 cv_5_76 (kX4_size X l (w.2.1 23 11) w) g1 rfl (by decide) rfl rfl (Nat.le_of_ble_eq_true rfl) (by decide) (fun r2 w3 => ?_)
  refine q_istore_n (lv' := [(3, .int r2), (0, .ref 23), (1, .long x1)]) eX5_namePattern_24 rfl (by decide) rfl ?_
  refine q_iload_n 0 eX5_namePattern_25 rfl rfl ?_
  refine q_if_lt (tgt := 45) eX5_namePattern_26 (by decide) (fun _ => ?_) (fun _ => ?_)
  · exact q_return eX5_namePattern_45 rfl
  · refine q_iload_n 0 eX5_namePattern_29 rfl rfl ?_
    refine q_aload_n 1 eX5_namePattern_30 rfl rfl ?_
    refine q_getG (v := 29) eX5_namePattern_31 fl_5_20 tC_23 rfl gC_23_1 ?_
    refine q_alenL eX5_namePattern_34 tC_29 nC_29 ?_
    refine q_icmp_ge (tgt := 45) eX5_namePattern_35 (by decide) (fun _ => ?_) (fun _ => ?_)
    · exact q_return eX5_namePattern_45 rfl
    · refine q_aload_n 1 eX5_namePattern_38 rfl rfl ?_
      refine q_getG (v := 29) eX5_namePattern_39 fl_5_20 tC_23 rfl gC_23_1 ?_
      refine q_iload_n 0 eX5_namePattern_42 rfl rfl ?_
      refine q_lload_n 2 eX5_namePattern_43 rfl rfl ?_
      refine q_last eX5_namePattern_44 tC_29 nC_29 ?_
      refine q_ltW (fun w4 => ?_)
      exact q_return eX5_namePattern_45 rfl
def fX5_namePattern (a1 : Int64) (w : q_W) : Option (Unit × q_W) :=
  q_b (fX5_patternOf a1 w) fun r1 w2 =>
  if r1 < 0 then
    fX5_namePattern_n17 a1 w2
  else
    q_b (fX5_note 3 (w2.1 23 6) w2) fun r3 w4 =>
    fX5_namePattern_n17 a1 w4
set_option maxHeartbeats 4000000 in
set_option maxRecDepth 100000 in
theorem kX5_namePattern (X : q_X) (l : Launch) (a1 : Int64) (w : q_W) : q_Ct X S_C l mX5_namePattern 2 q_tV [.ref 23, .long a1] w (fX5_namePattern a1 w) := by
  refine q_intro (lv := [(0, .ref 23), (1, .long a1)]) (by decide +kernel) rfl (Nat.le_of_ble_eq_true rfl) rfl ?_
  refine q_aload_n 0 eX5_namePattern_0 rfl rfl ?_
  refine q_lload_n 1 eX5_namePattern_1 rfl rfl ?_
  refine q_callVI (As := [.long a1]) (st := []) eX5_namePattern_2 cv_5_109 (kX5_patternOf X l a1 w) tC_23 rfl (by decide) rfl rfl (Nat.le_of_ble_eq_true rfl) (by decide) (fun r1 w2 => ?_)
  refine q_if_lt (tgt := 17) eX5_namePattern_5 (by decide) (fun _ => ?_) (fun _ => ?_)
  · exact q_sub [0, 1] rfl (jX5_namePattern_n17 X l a1 w2)
  · refine q_aload_n 0 eX5_namePattern_8 rfl rfl ?_
    refine q_iconst eX5_namePattern_9 kiconst_3 ?_
    refine q_aload_n 0 eX5_namePattern_10 rfl rfl ?_
    refine q_getI eX5_namePattern_11 fl_5_60 tC_23 rfl ?_
    refine q_callVV (As := [.int 3, .int (w2.1 23 6)]) (st := []) eX5_namePattern_14 cv_5_113 (kX5_note X l 3 (w2.1 23 6) w2) tC_23 rfl (by decide) rfl rfl (Nat.le_of_ble_eq_true rfl) (by decide) (fun r3 w4 => ?_)
    exact q_sub [0, 1] rfl (jX5_namePattern_n17 X l a1 w4)
def fX5_bringInReach_n29 (w : q_W) : Option (Unit × q_W) :=
  q_lt (q_sI w 23 3 ((w.1 23 3) + 1)) fun w1 =>
  some ((), w1)
set_option maxHeartbeats 4000000 in
set_option maxRecDepth 100000 in
theorem jX5_bringInReach_n29 (X : q_X) (l : Launch) (w : q_W) : q_J X S_C l mX5_bringInReach 0 q_tV 29 [(0, .ref 23)] [] w (fX5_bringInReach_n29 w) := by
  refine q_aload_n 0 eX5_bringInReach_29 rfl rfl ?_
  refine q_dup eX5_bringInReach_30 rfl ?_
  refine q_getI eX5_bringInReach_31 fl_5_91 tC_23 rfl ?_
  refine q_iconst eX5_bringInReach_34 kiconst_1 ?_
  refine q_iadd eX5_bringInReach_35 ?_
  refine q_putI eX5_bringInReach_36 fp_5_91 tC_23 rfl ⟨rfl, rfl⟩ ?_
  refine q_ltW (fun w1 => ?_)
  exact q_return eX5_bringInReach_39 rfl
def fX5_bringInReach (a1 : Int64) (w : q_W) : Option (Unit × q_W) :=
  if (w.1 23 3) < 0 then
    fX5_bringInReach_n29 w
  else
    if 8 ≤ (w.1 23 3) then
      fX5_bringInReach_n29 w
    else
      q_lt (w.1 23 3) fun y1 =>
      if q_inb y1 8 then
      q_lt (q_sL w 30 (q_ix y1) a1) fun w2 =>
      fX5_bringInReach_n29 w2
      else none
set_option maxHeartbeats 4000000 in
set_option maxRecDepth 100000 in
theorem kX5_bringInReach (X : q_X) (l : Launch) (a1 : Int64) (w : q_W) : q_Ct X S_C l mX5_bringInReach 0 q_tV [.ref 23, .long a1] w (fX5_bringInReach a1 w) := by
  refine q_intro (lv := [(0, .ref 23), (1, .long a1)]) (by decide +kernel) rfl (Nat.le_of_ble_eq_true rfl) rfl ?_
  refine q_aload_n 0 eX5_bringInReach_0 rfl rfl ?_
  refine q_getI eX5_bringInReach_1 fl_5_91 tC_23 rfl ?_
  refine q_if_lt (tgt := 29) eX5_bringInReach_4 (by decide) (fun _ => ?_) (fun _ => ?_)
  · exact q_sub [0] rfl (jX5_bringInReach_n29 X l w)
  · refine q_aload_n 0 eX5_bringInReach_7 rfl rfl ?_
    refine q_getI eX5_bringInReach_8 fl_5_91 tC_23 rfl ?_
    refine q_aload_n 0 eX5_bringInReach_11 rfl rfl ?_
    refine q_getG (v := 30) eX5_bringInReach_12 fl_5_26 tC_23 rfl gC_23_2 ?_
    refine q_alenL eX5_bringInReach_15 tC_30 nC_30 ?_
    refine q_icmp_ge (tgt := 29) eX5_bringInReach_16 (by decide) (fun _ => ?_) (fun _ => ?_)
    · exact q_sub [0] rfl (jX5_bringInReach_n29 X l w)
    · refine q_aload_n 0 eX5_bringInReach_19 rfl rfl ?_
      refine q_getG (v := 30) eX5_bringInReach_20 fl_5_26 tC_23 rfl gC_23_2 ?_
      refine q_aload_n 0 eX5_bringInReach_23 rfl rfl ?_
      refine q_getI eX5_bringInReach_24 fl_5_91 tC_23 rfl ?_
      refine q_lload_n 1 eX5_bringInReach_27 rfl rfl ?_
      refine q_ltI1 (fun y1 => ?_)
      refine q_last eX5_bringInReach_28 tC_30 nC_30 ?_
      refine q_ltW (fun w2 => ?_)
      exact q_sub [0] rfl (jX5_bringInReach_n29 X l w2)
def fX5_reachOf_h2 (rec2 : Int64 → Int32 → q_W → Option (Int32 × q_W)) (x1 : Int64) (x3 : Int32) (w : q_W) : Option (Int32 × q_W) :=
  if (w.1 23 3) ≤ x3 then
    some ((-1), w)
  else
    if 8 ≤ x3 then
      some ((-1), w)
    else
      if q_inb x3 8 then
      if (lg_cmp (w.2.2 30 (q_ix x3)) x1) = 0 then
        some (x3, w)
      else
        q_lt (x3 + 1) fun y1 =>
        rec2 x1 y1 w
      else none
def fX5_reachOf_l2 : Int64 → Int32 → q_W → Option (Int32 × q_W) := q_it q_N (fX5_reachOf_h2) (fun _ _ _ => none)
set_option maxHeartbeats 4000000 in
set_option maxRecDepth 100000 in
theorem jX5_reachOf_h2 (X : q_X) (l : Launch) (rec2 : Int64 → Int32 → q_W → Option (Int32 × q_W)) (hr2 : ∀ x1 x3 w, q_J X S_C l mX5_reachOf 0 q_tI 2 [(0, .ref 23), (1, .long x1), (3, .int x3)] [] w (rec2 x1 x3 w)) : ∀ x1 x3 w, q_J X S_C l mX5_reachOf 0 q_tI 2 [(0, .ref 23), (1, .long x1), (3, .int x3)] [] w (fX5_reachOf_h2 rec2 x1 x3 w) := by
  intro x1 x3 w
  refine q_iload_n 2 eX5_reachOf_2 rfl rfl ?_
  refine q_aload_n 0 eX5_reachOf_3 rfl rfl ?_
  refine q_getI eX5_reachOf_4 fl_5_91 tC_23 rfl ?_
  refine q_icmp_ge (tgt := 38) eX5_reachOf_7 (by decide) (fun _ => ?_) (fun _ => ?_)
  · refine q_iconst eX5_reachOf_38 kiconst_m1 ?_
    exact q_ireturn eX5_reachOf_39 rfl
  · refine q_iload_n 2 eX5_reachOf_10 rfl rfl ?_
    refine q_aload_n 0 eX5_reachOf_11 rfl rfl ?_
    refine q_getG (v := 30) eX5_reachOf_12 fl_5_26 tC_23 rfl gC_23_2 ?_
    refine q_alenL eX5_reachOf_15 tC_30 nC_30 ?_
    refine q_icmp_ge (tgt := 38) eX5_reachOf_16 (by decide) (fun _ => ?_) (fun _ => ?_)
    · refine q_iconst eX5_reachOf_38 kiconst_m1 ?_
      exact q_ireturn eX5_reachOf_39 rfl
    · refine q_aload_n 0 eX5_reachOf_19 rfl rfl ?_
      refine q_getG (v := 30) eX5_reachOf_20 fl_5_26 tC_23 rfl gC_23_2 ?_
      refine q_iload_n 2 eX5_reachOf_23 rfl rfl ?_
      refine q_lald eX5_reachOf_24 tC_30 nC_30 ?_
      refine q_lload_n 1 eX5_reachOf_25 rfl rfl ?_
      refine q_lcmp eX5_reachOf_26 ?_
      refine q_if_ne (tgt := 32) eX5_reachOf_27 (by decide) (fun _ => ?_) (fun _ => ?_)
      · refine q_iload_n 2 eX5_reachOf_30 rfl rfl ?_
        exact q_ireturn eX5_reachOf_31 rfl
      · refine q_ltE (fun y1 hy1 => ?_)
        refine q_iinc (v := y1) (lv' := [(3, .int y1), (0, .ref 23), (1, .long x1)]) 2 eX5_reachOf_32 rfl hy1 (by decide) rfl ?_
        refine q_goto (tgt := 2) eX5_reachOf_35 (by decide) ?_
        exact q_sub [1, 2, 0] rfl (hr2 x1 y1 w)
set_option maxHeartbeats 4000000 in
set_option maxRecDepth 100000 in
theorem jX5_reachOf_l2 (X : q_X) (l : Launch) : ∀ x1 x3 w, q_J X S_C l mX5_reachOf 0 q_tI 2 [(0, .ref 23), (1, .long x1), (3, .int x3)] [] w (fX5_reachOf_l2 x1 x3 w) := by
  exact q_it_ind (fun rc => ∀ x1 x3 w, q_J X S_C l mX5_reachOf 0 q_tI 2 [(0, .ref 23), (1, .long x1), (3, .int x3)] [] w (rc x1 x3 w)) _ _ (fun _ _ _ => q_none) (fun rc hrc => jX5_reachOf_h2 X l rc hrc) q_N
def fX5_reachOf (a1 : Int64) (w : q_W) : Option (Int32 × q_W) :=
  fX5_reachOf_l2 a1 0 w
set_option maxHeartbeats 4000000 in
set_option maxRecDepth 100000 in
theorem kX5_reachOf (X : q_X) (l : Launch) (a1 : Int64) (w : q_W) : q_Ct X S_C l mX5_reachOf 0 q_tI [.ref 23, .long a1] w (fX5_reachOf a1 w) := by
  refine q_intro (lv := [(0, .ref 23), (1, .long a1)]) (by decide +kernel) rfl (Nat.le_of_ble_eq_true rfl) rfl ?_
  refine q_iconst eX5_reachOf_0 kiconst_0 ?_
  refine q_istore_n (lv' := [(3, .int 0), (0, .ref 23), (1, .long a1)]) eX5_reachOf_1 rfl (by decide) rfl ?_
  exact q_sub [1, 2, 0] rfl (jX5_reachOf_l2 X l a1 0 w)
def fX5_noteIfReached (a1 : Int64) (w : q_W) : Option (Unit × q_W) :=
  q_b (fX5_reachOf a1 w) fun r1 w2 =>
  if r1 < 0 then
    some ((), w2)
  else
    q_b (fX5_note 3 (w2.1 23 6) w2) fun r3 w4 =>
    some ((), w4)
set_option maxHeartbeats 4000000 in
set_option maxRecDepth 100000 in
theorem kX5_noteIfReached (X : q_X) (l : Launch) (a1 : Int64) (w : q_W) : q_Ct X S_C l mX5_noteIfReached 1 q_tV [.ref 23, .long a1] w (fX5_noteIfReached a1 w) := by
  refine q_intro (lv := [(0, .ref 23), (1, .long a1)]) (by decide +kernel) rfl (Nat.le_of_ble_eq_true rfl) rfl ?_
  refine q_aload_n 0 eX5_noteIfReached_0 rfl rfl ?_
  refine q_lload_n 1 eX5_noteIfReached_1 rfl rfl ?_
  refine q_callVI (As := [.long a1]) (st := []) eX5_noteIfReached_2 cv_5_123 (kX5_reachOf X l a1 w) tC_23 rfl (by decide) rfl rfl (Nat.le_of_ble_eq_true rfl) (by decide) (fun r1 w2 => ?_)
  refine q_if_lt (tgt := 17) eX5_noteIfReached_5 (by decide) (fun _ => ?_) (fun _ => ?_)
  · exact q_return eX5_noteIfReached_17 rfl
  · refine q_aload_n 0 eX5_noteIfReached_8 rfl rfl ?_
    refine q_iconst eX5_noteIfReached_9 kiconst_3 ?_
    refine q_aload_n 0 eX5_noteIfReached_10 rfl rfl ?_
    refine q_getI eX5_noteIfReached_11 fl_5_60 tC_23 rfl ?_
    refine q_callVV (As := [.int 3, .int (w2.1 23 6)]) (st := []) eX5_noteIfReached_14 cv_5_113 (kX5_note X l 3 (w2.1 23 6) w2) tC_23 rfl (by decide) rfl rfl (Nat.le_of_ble_eq_true rfl) (by decide) (fun r3 w4 => ?_)
    exact q_return eX5_noteIfReached_17 rfl
def fX7_kindAt (a1 : Int32) (w : q_W) : Option (Int32 × q_W) :=
  if a1 < 0 then
    some ((-1), w)
  else
    if 501 ≤ a1 then
      some ((-1), w)
    else
      if q_inb a1 501 then
      some ((w.1 26 (q_ix a1)), w)
      else none
set_option maxHeartbeats 4000000 in
set_option maxRecDepth 100000 in
theorem kX7_kindAt (X : q_X) (l : Launch) (a1 : Int32) (w : q_W) : q_Ct X S_C l mX7_kindAt 0 q_tI [.ref 24, .int a1] w (fX7_kindAt a1 w) := by
  refine q_intro (lv := [(0, .ref 24), (1, .int a1)]) (by decide +kernel) rfl (Nat.le_of_ble_eq_true rfl) rfl ?_
  refine q_iload_n 1 eX7_kindAt_0 rfl rfl ?_
  refine q_if_lt (tgt := 20) eX7_kindAt_1 (by decide) (fun _ => ?_) (fun _ => ?_)
  · refine q_iconst eX7_kindAt_20 kiconst_m1 ?_
    exact q_ireturn eX7_kindAt_21 rfl
  · refine q_iload_n 1 eX7_kindAt_4 rfl rfl ?_
    refine q_sipush eX7_kindAt_5 ksipush_501 ?_
    refine q_icmp_ge (tgt := 20) eX7_kindAt_8 (by decide) (fun _ => ?_) (fun _ => ?_)
    · refine q_iconst eX7_kindAt_20 kiconst_m1 ?_
      exact q_ireturn eX7_kindAt_21 rfl
    · refine q_aload_n 0 eX7_kindAt_11 rfl rfl ?_
      refine q_getG (v := 26) eX7_kindAt_12 fl_7_13 tC_24 rfl gC_24_1 ?_
      refine q_iload_n 1 eX7_kindAt_15 rfl rfl ?_
      refine q_iald eX7_kindAt_16 tC_26 nC_26 ?_
      refine q_goto (tgt := 21) eX7_kindAt_17 (by decide) ?_
      exact q_ireturn eX7_kindAt_21 rfl
def fX7_startAt (a1 : Int32) (w : q_W) : Option (Int32 × q_W) :=
  if a1 < 0 then
    some (0, w)
  else
    if 501 ≤ a1 then
      some (0, w)
    else
      if q_inb a1 501 then
      some ((w.1 27 (q_ix a1)), w)
      else none
set_option maxHeartbeats 4000000 in
set_option maxRecDepth 100000 in
theorem kX7_startAt (X : q_X) (l : Launch) (a1 : Int32) (w : q_W) : q_Ct X S_C l mX7_startAt 0 q_tI [.ref 24, .int a1] w (fX7_startAt a1 w) := by
  refine q_intro (lv := [(0, .ref 24), (1, .int a1)]) (by decide +kernel) rfl (Nat.le_of_ble_eq_true rfl) rfl ?_
  refine q_iload_n 1 eX7_startAt_0 rfl rfl ?_
  refine q_if_lt (tgt := 20) eX7_startAt_1 (by decide) (fun _ => ?_) (fun _ => ?_)
  · refine q_iconst eX7_startAt_20 kiconst_0 ?_
    exact q_ireturn eX7_startAt_21 rfl
  · refine q_iload_n 1 eX7_startAt_4 rfl rfl ?_
    refine q_sipush eX7_startAt_5 ksipush_501 ?_
    refine q_icmp_ge (tgt := 20) eX7_startAt_8 (by decide) (fun _ => ?_) (fun _ => ?_)
    · refine q_iconst eX7_startAt_20 kiconst_0 ?_
      exact q_ireturn eX7_startAt_21 rfl
    · refine q_aload_n 0 eX7_startAt_11 rfl rfl ?_
      refine q_getG (v := 27) eX7_startAt_12 fl_7_17 tC_24 rfl gC_24_2 ?_
      refine q_iload_n 1 eX7_startAt_15 rfl rfl ?_
      refine q_iald eX7_startAt_16 tC_27 nC_27 ?_
      refine q_goto (tgt := 21) eX7_startAt_17 (by decide) ?_
      exact q_ireturn eX7_startAt_21 rfl
def fX5_take_n15 (w : q_W) : Option (Unit × q_W) :=
  q_b (fX5_fail 1 w) fun r1 w2 =>
  some ((), w2)
set_option maxHeartbeats 4000000 in
set_option maxRecDepth 100000 in
theorem jX5_take_n15 (X : q_X) (l : Launch) (w : q_W) : q_J X S_C l mX5_take 1 q_tV 15 [(0, .ref 23)] [] w (fX5_take_n15 w) := by
  refine q_aload_n 0 eX5_take_15 rfl rfl ?_
  refine q_iconst eX5_take_16 kiconst_1 ?_
  refine q_callVV (As := [.int 1]) (st := []) eX5_take_17 cv_5_66 (kX5_fail X l 1 w) tC_23 rfl (by decide) rfl rfl (Nat.le_of_ble_eq_true rfl) (by decide) (fun r1 w2 => ?_)
  refine q_goto (tgt := 81) eX5_take_20 (by decide) ?_
  exact q_return eX5_take_81 rfl
def fX5_take (a1 : Int32) (w : q_W) : Option (Unit × q_W) :=
  if (w.1 23 5) = a1 then
    if (w.1 23 7) = 0 then
      if (w.1 23 4) < 500 then
        q_lt (q_sI w 23 4 ((w.1 23 4) + 1)) fun w1 =>
        q_b (fX7_kindAt (w1.1 23 4) w1) fun r2 w3 =>
        q_lt (q_sI w3 23 5 r2) fun w4 =>
        q_b (fX7_startAt (w4.1 23 4) w4) fun r5 w6 =>
        q_lt (q_sI w6 23 6 r5) fun w7 =>
        some ((), w7)
      else
        q_b (fX5_fail 2 w) fun r8 w9 =>
        some ((), w9)
    else
      fX5_take_n15 w
  else
    fX5_take_n15 w
set_option maxHeartbeats 4000000 in
set_option maxRecDepth 100000 in
theorem kX5_take (X : q_X) (l : Launch) (a1 : Int32) (w : q_W) : q_Ct X S_C l mX5_take 1 q_tV [.ref 23, .int a1] w (fX5_take a1 w) := by
  refine q_intro (lv := [(0, .ref 23), (1, .int a1)]) (by decide +kernel) rfl (Nat.le_of_ble_eq_true rfl) rfl ?_
  refine q_aload_n 0 eX5_take_0 rfl rfl ?_
  refine q_getI eX5_take_1 fl_5_54 tC_23 rfl ?_
  refine q_iload_n 1 eX5_take_4 rfl rfl ?_
  refine q_icmp_ne (tgt := 15) eX5_take_5 (by decide) (fun _ => ?_) (fun _ => ?_)
  · refine q_aload_n 0 eX5_take_8 rfl rfl ?_
    refine q_getI eX5_take_9 fl_5_36 tC_23 rfl ?_
    refine q_if_eq (tgt := 23) eX5_take_12 (by decide) (fun _ => ?_) (fun _ => ?_)
    · refine q_aload_n 0 eX5_take_23 rfl rfl ?_
      refine q_getI eX5_take_24 fl_5_47 tC_23 rfl ?_
      refine q_sipush eX5_take_27 ksipush_500 ?_
      refine q_icmp_lt (tgt := 41) eX5_take_30 (by decide) (fun _ => ?_) (fun _ => ?_)
      · refine q_aload_n 0 eX5_take_41 rfl rfl ?_
        refine q_dup eX5_take_42 rfl ?_
        refine q_getI eX5_take_43 fl_5_47 tC_23 rfl ?_
        refine q_iconst eX5_take_46 kiconst_1 ?_
        refine q_iadd eX5_take_47 ?_
        refine q_putI eX5_take_48 fp_5_47 tC_23 rfl ⟨rfl, rfl⟩ ?_
        refine q_ltW (fun w1 => ?_)
        refine q_aload_n 0 eX5_take_51 rfl rfl ?_
        refine q_aload_n 0 eX5_take_52 rfl rfl ?_
        refine q_getG (v := 24) eX5_take_53 fl_5_12 tC_23 rfl gC_23_0 ?_
        refine q_aload_n 0 eX5_take_56 rfl rfl ?_
        refine q_getI eX5_take_57 fl_5_47 tC_23 rfl ?_
        refine q_callVI (As := [.int (w1.1 23 4)]) (st := [.ref 23]) eX5_take_60 cv_5_50 (kX7_kindAt X l (w1.1 23 4) w1) tC_24 rfl (by decide) rfl rfl (Nat.le_of_ble_eq_true rfl) (by decide) (fun r2 w3 => ?_)
        refine q_putI eX5_take_63 fp_5_54 tC_23 rfl ⟨rfl, rfl⟩ ?_
        refine q_ltW (fun w4 => ?_)
        refine q_aload_n 0 eX5_take_66 rfl rfl ?_
        refine q_aload_n 0 eX5_take_67 rfl rfl ?_
        refine q_getG (v := 24) eX5_take_68 fl_5_12 tC_23 rfl gC_23_0 ?_
        refine q_aload_n 0 eX5_take_71 rfl rfl ?_
        refine q_getI eX5_take_72 fl_5_47 tC_23 rfl ?_
        refine q_callVI (As := [.int (w4.1 23 4)]) (st := [.ref 23]) eX5_take_75 cv_5_57 (kX7_startAt X l (w4.1 23 4) w4) tC_24 rfl (by decide) rfl rfl (Nat.le_of_ble_eq_true rfl) (by decide) (fun r5 w6 => ?_)
        refine q_putI eX5_take_78 fp_5_60 tC_23 rfl ⟨rfl, rfl⟩ ?_
        refine q_ltW (fun w7 => ?_)
        exact q_return eX5_take_81 rfl
      · refine q_aload_n 0 eX5_take_33 rfl rfl ?_
        refine q_iconst eX5_take_34 kiconst_2 ?_
        refine q_callVV (As := [.int 2]) (st := []) eX5_take_35 cv_5_66 (kX5_fail X l 2 w) tC_23 rfl (by decide) rfl rfl (Nat.le_of_ble_eq_true rfl) (by decide) (fun r8 w9 => ?_)
        refine q_goto (tgt := 81) eX5_take_38 (by decide) ?_
        exact q_return eX5_take_81 rfl
    · exact q_sub [0] rfl (jX5_take_n15 X l w)
  · exact q_sub [0] rfl (jX5_take_n15 X l w)
def fX7_saysAt (a1 : Int32) (w : q_W) : Option (Int64 × q_W) :=
  if a1 < 0 then
    some (0, w)
  else
    if 501 ≤ a1 then
      some (0, w)
    else
      if q_inb a1 501 then
      some ((w.2.2 28 (q_ix a1)), w)
      else none
set_option maxHeartbeats 4000000 in
set_option maxRecDepth 100000 in
theorem kX7_saysAt (X : q_X) (l : Launch) (a1 : Int32) (w : q_W) : q_Ct X S_C l mX7_saysAt 0 q_tL [.ref 24, .int a1] w (fX7_saysAt a1 w) := by
  refine q_intro (lv := [(0, .ref 24), (1, .int a1)]) (by decide +kernel) rfl (Nat.le_of_ble_eq_true rfl) rfl ?_
  refine q_iload_n 1 eX7_saysAt_0 rfl rfl ?_
  refine q_if_lt (tgt := 20) eX7_saysAt_1 (by decide) (fun _ => ?_) (fun _ => ?_)
  · refine q_lconst (v := 0) eX7_saysAt_20 rfl ?_
    exact q_lreturn eX7_saysAt_21 rfl
  · refine q_iload_n 1 eX7_saysAt_4 rfl rfl ?_
    refine q_sipush eX7_saysAt_5 ksipush_501 ?_
    refine q_icmp_ge (tgt := 20) eX7_saysAt_8 (by decide) (fun _ => ?_) (fun _ => ?_)
    · refine q_lconst (v := 0) eX7_saysAt_20 rfl ?_
      exact q_lreturn eX7_saysAt_21 rfl
    · refine q_aload_n 0 eX7_saysAt_11 rfl rfl ?_
      refine q_getG (v := 28) eX7_saysAt_12 fl_7_20 tC_24 rfl gC_24_3 ?_
      refine q_iload_n 1 eX7_saysAt_15 rfl rfl ?_
      refine q_lald eX7_saysAt_16 tC_28 nC_28 ?_
      refine q_goto (tgt := 21) eX7_saysAt_17 (by decide) ?_
      exact q_lreturn eX7_saysAt_21 rfl
def fX5_readUnit_n116 (rU : Int32 → q_W → Option (Unit × q_W)) (rS : Int32 → q_W → Option (Unit × q_W)) (x1 : Int32) (w : q_W) : Option (Unit × q_W) :=
  if x1 < 6 then
    if (w.1 23 5) = 45 then
      q_b (fX5_take 45 w) fun r1 w2 =>
      q_b (rU (x1 + 1) w2) fun r3 w4 =>
      if cC (w4.2.1 23 11) = 4 then
      q_b (fX4_add (w4.2.1 23 11) 4 w4) fun r6 w7 =>
      some ((), w7)
      else none
    else
      q_b (fX5_take 40 w) fun r8 w9 =>
      q_b (rS (x1 + 1) w9) fun r10 w11 =>
      q_b (fX5_take 41 w11) fun r12 w13 =>
      some ((), w13)
  else
    q_b (fX5_fail 2 w) fun r14 w15 =>
    some ((), w15)
set_option maxHeartbeats 4000000 in
set_option maxRecDepth 100000 in
theorem jX5_readUnit_n116 (X : q_X) (l : Launch) (d : Nat) (hd0 : 2 ≤ d) (rU : Int32 → q_W → Option (Unit × q_W)) (drU : Nat) (hrU : ∀ a0 w, q_Ct X S_C l mX5_readUnit drU q_tV [.ref 23, .int a0] w (rU a0 w)) (erU : drU + 1 ≤ d) (rS : Int32 → q_W → Option (Unit × q_W)) (drS : Nat) (hrS : ∀ a0 w, q_Ct X S_C l mX5_readSum drS q_tV [.ref 23, .int a0] w (rS a0 w)) (erS : drS + 1 ≤ d) (x1 : Int32) (w : q_W) : q_J X S_C l mX5_readUnit d q_tV 116 [(0, .ref 23), (1, .int x1)] [] w (fX5_readUnit_n116 rU rS x1 w) := by
  refine q_iload_n 1 eX5_readUnit_116 rfl rfl ?_
  refine q_bipush eX5_readUnit_117 kbipush_6 ?_
  refine q_icmp_lt (tgt := 130) eX5_readUnit_119 (by decide) (fun _ => ?_) (fun _ => ?_)
  · refine q_aload_n 0 eX5_readUnit_130 rfl rfl ?_
    refine q_getI eX5_readUnit_131 fl_5_54 tC_23 rfl ?_
    refine q_bipush eX5_readUnit_134 kbipush_45 ?_
    refine q_icmp_ne (tgt := 163) eX5_readUnit_136 (by decide) (fun _ => ?_) (fun _ => ?_)
    · refine q_aload_n 0 eX5_readUnit_139 rfl rfl ?_
      refine q_bipush eX5_readUnit_140 kbipush_45 ?_
      refine q_callVV (As := [.int 45]) (st := []) eX5_readUnit_142 cv_5_80 (kX5_take X l 45 w) tC_23 rfl (by decide) rfl rfl (Nat.le_of_ble_eq_true rfl) (by omega) (fun r1 w2 => ?_)
      refine q_aload_n 0 eX5_readUnit_145 rfl rfl ?_
      refine q_iload_n 1 eX5_readUnit_146 rfl rfl ?_
      refine q_iconst eX5_readUnit_147 kiconst_1 ?_
      refine q_iadd eX5_readUnit_148 ?_
      refine q_callVV (As := [.int (x1 + 1)]) (st := []) eX5_readUnit_149 cv_5_176 (hrU (x1 + 1) w2) tC_23 rfl (by decide) rfl rfl (Nat.le_of_ble_eq_true rfl) erU (fun r3 w4 => ?_)
      refine q_aload_n 0 eX5_readUnit_152 rfl rfl ?_
      refine q_getR eX5_readUnit_153 fl_5_29 tC_23 rfl ?_
      refine q_ck (fun g5 => ?_)
      refine q_iconst eX5_readUnit_156 kiconst_4 ?_
      refine q_callVV (As := [.int 4]) (st := []) eX5_readUnit_157 cv_5_103 (kX4_add X l (w4.2.1 23 11) 4 w4) g5 rfl (by decide) rfl rfl (Nat.le_of_ble_eq_true rfl) (by omega) (fun r6 w7 => ?_)
      refine q_goto (tgt := 182) eX5_readUnit_160 (by decide) ?_
      exact q_return eX5_readUnit_182 rfl
    · refine q_aload_n 0 eX5_readUnit_163 rfl rfl ?_
      refine q_bipush eX5_readUnit_164 kbipush_40 ?_
      refine q_callVV (As := [.int 40]) (st := []) eX5_readUnit_166 cv_5_80 (kX5_take X l 40 w) tC_23 rfl (by decide) rfl rfl (Nat.le_of_ble_eq_true rfl) (by omega) (fun r8 w9 => ?_)
      refine q_aload_n 0 eX5_readUnit_169 rfl rfl ?_
      refine q_iload_n 1 eX5_readUnit_170 rfl rfl ?_
      refine q_iconst eX5_readUnit_171 kiconst_1 ?_
      refine q_iadd eX5_readUnit_172 ?_
      refine q_callVV (As := [.int (x1 + 1)]) (st := []) eX5_readUnit_173 cv_5_152 (hrS (x1 + 1) w9) tC_23 rfl (by decide) rfl rfl (Nat.le_of_ble_eq_true rfl) erS (fun r10 w11 => ?_)
      refine q_aload_n 0 eX5_readUnit_176 rfl rfl ?_
      refine q_bipush eX5_readUnit_177 kbipush_41 ?_
      refine q_callVV (As := [.int 41]) (st := []) eX5_readUnit_179 cv_5_80 (kX5_take X l 41 w11) tC_23 rfl (by decide) rfl rfl (Nat.le_of_ble_eq_true rfl) (by omega) (fun r12 w13 => ?_)
      exact q_return eX5_readUnit_182 rfl
  · refine q_aload_n 0 eX5_readUnit_122 rfl rfl ?_
    refine q_iconst eX5_readUnit_123 kiconst_2 ?_
    refine q_callVV (As := [.int 2]) (st := []) eX5_readUnit_124 cv_5_66 (kX5_fail X l 2 w) tC_23 rfl (by decide) rfl rfl (Nat.le_of_ble_eq_true rfl) (by omega) (fun r14 w15 => ?_)
    refine q_goto (tgt := 182) eX5_readUnit_127 (by decide) ?_
    exact q_return eX5_readUnit_182 rfl
def fX5_readUnit_n73 (rU : Int32 → q_W → Option (Unit × q_W)) (rS : Int32 → q_W → Option (Unit × q_W)) (x2 : Int32) (w : q_W) : Option (Unit × q_W) :=
  if cC (w.2.1 23 11) = 4 then
  q_b (fX4_add_ (w.2.1 23 11) 3 x2 w) fun r2 w3 =>
  q_b (fX5_take 1 w3) fun r4 w5 =>
  some ((), w5)
  else none
set_option maxHeartbeats 4000000 in
set_option maxRecDepth 100000 in
theorem jX5_readUnit_n73 (X : q_X) (l : Launch) (d : Nat) (hd0 : 2 ≤ d) (rU : Int32 → q_W → Option (Unit × q_W)) (drU : Nat) (hrU : ∀ a0 w, q_Ct X S_C l mX5_readUnit drU q_tV [.ref 23, .int a0] w (rU a0 w)) (erU : drU + 1 ≤ d) (rS : Int32 → q_W → Option (Unit × q_W)) (drS : Nat) (hrS : ∀ a0 w, q_Ct X S_C l mX5_readSum drS q_tV [.ref 23, .int a0] w (rS a0 w)) (erS : drS + 1 ≤ d) (x2 : Int32) (w : q_W) : q_J X S_C l mX5_readUnit d q_tV 73 [(0, .ref 23), (2, .int x2)] [] w (fX5_readUnit_n73 rU rS x2 w) := by
  refine q_aload_n 0 eX5_readUnit_73 rfl rfl ?_
  refine q_getR eX5_readUnit_74 fl_5_29 tC_23 rfl ?_
  refine q_ck (fun g1 => ?_)
  refine q_iconst eX5_readUnit_77 kiconst_3 ?_
  refine q_iload_n 1 eX5_readUnit_78 rfl rfl ?_
  refine q_callVV (As := [.int 3, .int x2]) (st := []) eX5_readUnit_79 cv_5_133 (kX4_add_ X l (w.2.1 23 11) 3 x2 w) g1 rfl (by decide) rfl rfl (Nat.le_of_ble_eq_true rfl) (by omega) (fun r2 w3 => ?_)
  refine q_aload_n 0 eX5_readUnit_82 rfl rfl ?_
  refine q_iconst eX5_readUnit_83 kiconst_1 ?_
  refine q_callVV (As := [.int 1]) (st := []) eX5_readUnit_84 cv_5_80 (kX5_take X l 1 w3) tC_23 rfl (by decide) rfl rfl (Nat.le_of_ble_eq_true rfl) (by omega) (fun r4 w5 => ?_)
  refine q_goto (tgt := 182) eX5_readUnit_87 (by decide) ?_
  exact q_return eX5_readUnit_182 rfl
def fX5_readUnit (rU : Int32 → q_W → Option (Unit × q_W)) (rS : Int32 → q_W → Option (Unit × q_W)) (a1 : Int32) (w : q_W) : Option (Unit × q_W) :=
  if (w.1 23 5) = 2 then
    if cC (w.2.1 23 11) = 4 then
    q_b (fX7_saysAt (w.1 23 4) w) fun r2 w3 =>
    q_b (fX4_add_ (w.2.1 23 11) 2 (Int64.toInt32 r2) w3) fun r4 w5 =>
    q_b (fX5_take 2 w5) fun r6 w7 =>
    some ((), w7)
    else none
  else
    if (w.1 23 5) = 1 then
      q_b (fX7_saysAt (w.1 23 4) w) fun r8 w9 =>
      q_b (fX5_reachOf r8 w9) fun r10 w11 =>
      if 0 ≤ r10 then
        fX5_readUnit_n73 rU rS r10 w11
      else
        q_b (fX5_note 4 (w11.1 23 6) w11) fun r12 w13 =>
        fX5_readUnit_n73 rU rS r10 w13
    else
      if (w.1 23 5) = 45 then
        fX5_readUnit_n116 rU rS a1 w
      else
        if (w.1 23 5) = 40 then
          fX5_readUnit_n116 rU rS a1 w
        else
          q_b (fX5_fail 1 w) fun r14 w15 =>
          some ((), w15)
set_option maxHeartbeats 4000000 in
set_option maxRecDepth 100000 in
theorem kX5_readUnit (X : q_X) (l : Launch) (d : Nat) (hd0 : 2 ≤ d) (rU : Int32 → q_W → Option (Unit × q_W)) (drU : Nat) (hrU : ∀ a0 w, q_Ct X S_C l mX5_readUnit drU q_tV [.ref 23, .int a0] w (rU a0 w)) (erU : drU + 1 ≤ d) (rS : Int32 → q_W → Option (Unit × q_W)) (drS : Nat) (hrS : ∀ a0 w, q_Ct X S_C l mX5_readSum drS q_tV [.ref 23, .int a0] w (rS a0 w)) (erS : drS + 1 ≤ d) (a1 : Int32) (w : q_W) : q_Ct X S_C l mX5_readUnit d q_tV [.ref 23, .int a1] w (fX5_readUnit rU rS a1 w) := by
  refine q_intro (lv := [(0, .ref 23), (1, .int a1)]) (by decide +kernel) rfl (Nat.le_of_ble_eq_true rfl) rfl ?_
  refine q_aload_n 0 eX5_readUnit_0 rfl rfl ?_
  refine q_getI eX5_readUnit_1 fl_5_54 tC_23 rfl ?_
  refine q_iconst eX5_readUnit_4 kiconst_2 ?_
  refine q_icmp_ne (tgt := 36) eX5_readUnit_5 (by decide) (fun _ => ?_) (fun _ => ?_)
  · refine q_aload_n 0 eX5_readUnit_8 rfl rfl ?_
    refine q_getR eX5_readUnit_9 fl_5_29 tC_23 rfl ?_
    refine q_ck (fun g1 => ?_)
    refine q_iconst eX5_readUnit_12 kiconst_2 ?_
    refine q_aload_n 0 eX5_readUnit_13 rfl rfl ?_
    refine q_getG (v := 24) eX5_readUnit_14 fl_5_12 tC_23 rfl gC_23_0 ?_
    refine q_aload_n 0 eX5_readUnit_17 rfl rfl ?_
    refine q_getI eX5_readUnit_18 fl_5_47 tC_23 rfl ?_
    refine q_callVL (As := [.int (w.1 23 4)]) (st := [.int 2, .ref (w.2.1 23 11)]) eX5_readUnit_21 cv_5_83 (kX7_saysAt X l (w.1 23 4) w) tC_24 rfl (by decide) rfl rfl (Nat.le_of_ble_eq_true rfl) (by omega) (fun r2 w3 => ?_)
    refine q_l2i eX5_readUnit_24 ?_
    refine q_callVV (As := [.int 2, .int (Int64.toInt32 r2)]) (st := []) eX5_readUnit_25 cv_5_133 (kX4_add_ X l (w.2.1 23 11) 2 (Int64.toInt32 r2) w3) g1 rfl (by decide) rfl rfl (Nat.le_of_ble_eq_true rfl) (by omega) (fun r4 w5 => ?_)
    refine q_aload_n 0 eX5_readUnit_28 rfl rfl ?_
    refine q_iconst eX5_readUnit_29 kiconst_2 ?_
    refine q_callVV (As := [.int 2]) (st := []) eX5_readUnit_30 cv_5_80 (kX5_take X l 2 w5) tC_23 rfl (by decide) rfl rfl (Nat.le_of_ble_eq_true rfl) (by omega) (fun r6 w7 => ?_)
    refine q_goto (tgt := 182) eX5_readUnit_33 (by decide) ?_
    exact q_return eX5_readUnit_182 rfl
  · refine q_aload_n 0 eX5_readUnit_36 rfl rfl ?_
    refine q_getI eX5_readUnit_37 fl_5_54 tC_23 rfl ?_
    refine q_iconst eX5_readUnit_40 kiconst_1 ?_
    refine q_icmp_ne (tgt := 90) eX5_readUnit_41 (by decide) (fun _ => ?_) (fun _ => ?_)
    · refine q_aload_n 0 eX5_readUnit_44 rfl rfl ?_
      refine q_aload_n 0 eX5_readUnit_45 rfl rfl ?_
      refine q_getG (v := 24) eX5_readUnit_46 fl_5_12 tC_23 rfl gC_23_0 ?_
      refine q_aload_n 0 eX5_readUnit_49 rfl rfl ?_
      refine q_getI eX5_readUnit_50 fl_5_47 tC_23 rfl ?_
      refine q_callVL (As := [.int (w.1 23 4)]) (st := [.ref 23]) eX5_readUnit_53 cv_5_83 (kX7_saysAt X l (w.1 23 4) w) tC_24 rfl (by decide) rfl rfl (Nat.le_of_ble_eq_true rfl) (by omega) (fun r8 w9 => ?_)
      refine q_callVI (As := [.long r8]) (st := []) eX5_readUnit_56 cv_5_123 (kX5_reachOf X l r8 w9) tC_23 rfl (by decide) rfl rfl (Nat.le_of_ble_eq_true rfl) (by omega) (fun r10 w11 => ?_)
      refine q_istore_n (lv' := [(2, .int r10), (0, .ref 23), (1, .int a1)]) eX5_readUnit_59 rfl (by decide) rfl ?_
      refine q_iload_n 0 eX5_readUnit_60 rfl rfl ?_
      refine q_if_ge (tgt := 73) eX5_readUnit_61 (by decide) (fun _ => ?_) (fun _ => ?_)
      · exact q_sub [1, 0] rfl (jX5_readUnit_n73 X l d hd0 rU drU hrU erU rS drS hrS erS r10 w11)
      · refine q_aload_n 1 eX5_readUnit_64 rfl rfl ?_
        refine q_iconst eX5_readUnit_65 kiconst_4 ?_
        refine q_aload_n 1 eX5_readUnit_66 rfl rfl ?_
        refine q_getI eX5_readUnit_67 fl_5_60 tC_23 rfl ?_
        refine q_callVV (As := [.int 4, .int (w11.1 23 6)]) (st := []) eX5_readUnit_70 cv_5_113 (kX5_note X l 4 (w11.1 23 6) w11) tC_23 rfl (by decide) rfl rfl (Nat.le_of_ble_eq_true rfl) (by omega) (fun r12 w13 => ?_)
        exact q_sub [1, 0] rfl (jX5_readUnit_n73 X l d hd0 rU drU hrU erU rS drS hrS erS r10 w13)
    · refine q_aload_n 0 eX5_readUnit_90 rfl rfl ?_
      refine q_getI eX5_readUnit_91 fl_5_54 tC_23 rfl ?_
      refine q_bipush eX5_readUnit_94 kbipush_45 ?_
      refine q_icmp_eq (tgt := 116) eX5_readUnit_96 (by decide) (fun _ => ?_) (fun _ => ?_)
      · exact q_sub [0, 1] rfl (jX5_readUnit_n116 X l d hd0 rU drU hrU erU rS drS hrS erS a1 w)
      · refine q_aload_n 0 eX5_readUnit_99 rfl rfl ?_
        refine q_getI eX5_readUnit_100 fl_5_54 tC_23 rfl ?_
        refine q_bipush eX5_readUnit_103 kbipush_40 ?_
        refine q_icmp_eq (tgt := 116) eX5_readUnit_105 (by decide) (fun _ => ?_) (fun _ => ?_)
        · exact q_sub [0, 1] rfl (jX5_readUnit_n116 X l d hd0 rU drU hrU erU rS drS hrS erS a1 w)
        · refine q_aload_n 0 eX5_readUnit_108 rfl rfl ?_
          refine q_iconst eX5_readUnit_109 kiconst_1 ?_
          refine q_callVV (As := [.int 1]) (st := []) eX5_readUnit_110 cv_5_66 (kX5_fail X l 1 w) tC_23 rfl (by decide) rfl rfl (Nat.le_of_ble_eq_true rfl) (by omega) (fun r14 w15 => ?_)
          refine q_goto (tgt := 182) eX5_readUnit_113 (by decide) ?_
          exact q_return eX5_readUnit_182 rfl
