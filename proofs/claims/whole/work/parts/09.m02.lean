/-! methods, printed by program: X2_tell X2_tellStrike X6_addAll X2_tellAll X2_markOut X2_findOut X2_isOut X2_laysKnown X6_isStroke X2_pickStrokes X3_bestMade X3_bestOff X3_foundLength X3_foundAt X3_pickAll X8_pointX X8_pointY X8_unlikeUpTo X3_compare X4_size X6_allow X6_clear X3_seekBest X3_doEach X3_holdsTogether X3_keepFound X3_pickMembers X3_setMembers -/
def fX2_tell (a1 : Int32) (q2 : Nat) (w : q_W) : Option (Int32 × q_W) :=
  if cC q2 = 100 then
  q_b (fX6_fits a1 q2 w) fun r1 w2 =>
  if r1 = 0 then
    some ((-1), w2)
  else
    q_b (fX6_add 4 a1 q2 w2) fun r3 w4 =>
    some (r3, w4)
  else none
set_option maxHeartbeats 4000000 in
set_option maxRecDepth 100000 in
theorem kX2_tell (X : q_X) (l : Launch) (a1 : Int32) (q2 : Nat) (w : q_W) : q_Ct X S_C l mX2_tell 2 q_tI [.ref 3, .int a1, .ref q2] w (fX2_tell a1 q2 w) := by
  refine q_intro (lv := [(0, .ref 3), (1, .int a1), (2, .ref q2)]) (by decide +kernel) rfl (Nat.le_of_ble_eq_true rfl) rfl ?_
  refine q_ck (fun h2 => ?_)
  refine q_iload_n 1 eX2_tell_0 rfl rfl ?_
  refine q_aload_n 2 eX2_tell_1 rfl rfl ?_
  refine q_callSI (As := [.int a1, .ref q2]) (st := []) eX2_tell_2 cv_2_37 (kX6_fits X l a1 q2 w) rfl rfl (Nat.le_of_ble_eq_true rfl) (by decide) (fun r1 w2 => ?_)
  refine q_if_eq (tgt := 20) eX2_tell_5 (by decide) (fun _ => ?_) (fun _ => ?_)
  · refine q_iconst eX2_tell_20 kiconst_m1 ?_
    exact q_ireturn eX2_tell_21 rfl
  · refine q_aload_n 0 eX2_tell_8 rfl rfl ?_
    refine q_getG (v := 4) eX2_tell_9 fl_2_12 tC_3 rfl gC_3_0 ?_
    refine q_iload_n 1 eX2_tell_12 rfl rfl ?_
    refine q_aload_n 2 eX2_tell_13 rfl rfl ?_
    refine q_callVI (As := [.int a1, .ref q2]) (st := []) eX2_tell_14 cv_2_41 (kX6_add X l 4 a1 q2 w2) tC_4 rfl (by decide) rfl rfl (Nat.le_of_ble_eq_true rfl) (by decide) (fun r3 w4 => ?_)
    refine q_goto (tgt := 21) eX2_tell_17 (by decide) ?_
    exact q_ireturn eX2_tell_21 rfl
def fX2_tellStrike_n38 (q1 : Nat) (s0 : Int32) (w : q_W) : Option (Int32 × q_W) :=
  if s0 = 0 then
    some ((-1), w)
  else
    q_b (fX6_add 4 5 q1 w) fun r1 w2 =>
    some (r1, w2)
set_option maxHeartbeats 4000000 in
set_option maxRecDepth 100000 in
theorem jX2_tellStrike_n38 (X : q_X) (l : Launch) (q1 : Nat) (h1 : cC q1 = 100) (s0 : Int32) (w : q_W) : q_J X S_C l mX2_tellStrike 2 q_tI 38 [(0, .ref 3), (1, .ref q1)] [.int s0] w (fX2_tellStrike_n38 q1 s0 w) := by
  refine q_istore_n (lv' := [(3, .int s0), (0, .ref 3), (1, .ref q1)]) eX2_tellStrike_38 rfl (by decide) rfl ?_
  refine q_iload_n 0 eX2_tellStrike_39 rfl rfl ?_
  refine q_if_eq (tgt := 55) eX2_tellStrike_40 (by decide) (fun _ => ?_) (fun _ => ?_)
  · refine q_iconst eX2_tellStrike_55 kiconst_m1 ?_
    exact q_ireturn eX2_tellStrike_56 rfl
  · refine q_aload_n 1 eX2_tellStrike_43 rfl rfl ?_
    refine q_getG (v := 4) eX2_tellStrike_44 fl_2_12 tC_3 rfl gC_3_0 ?_
    refine q_iconst eX2_tellStrike_47 kiconst_5 ?_
    refine q_aload_n 2 eX2_tellStrike_48 rfl rfl ?_
    refine q_callVI (As := [.int 5, .ref q1]) (st := []) eX2_tellStrike_49 cv_2_41 (kX6_add X l 4 5 q1 w) tC_4 rfl (by decide) rfl rfl (Nat.le_of_ble_eq_true rfl) (by decide) (fun r1 w2 => ?_)
    refine q_goto (tgt := 56) eX2_tellStrike_52 (by decide) ?_
    exact q_ireturn eX2_tellStrike_56 rfl
def fX2_tellStrike_n37 (q1 : Nat) (w : q_W) : Option (Int32 × q_W) :=
  fX2_tellStrike_n38 q1 0 w
set_option maxHeartbeats 4000000 in
set_option maxRecDepth 100000 in
theorem jX2_tellStrike_n37 (X : q_X) (l : Launch) (q1 : Nat) (h1 : cC q1 = 100) (w : q_W) : q_J X S_C l mX2_tellStrike 2 q_tI 37 [(0, .ref 3), (1, .ref q1)] [] w (fX2_tellStrike_n37 q1 w) := by
  refine q_iconst eX2_tellStrike_37 kiconst_0 ?_
  exact q_sub [0, 1] rfl (jX2_tellStrike_n38 X l q1 h1 0 w)
def fX2_tellStrike_n12 (q1 : Nat) (s0 : Int32) (w : q_W) : Option (Int32 × q_W) :=
  q_b (fX2_has s0 w) fun r1 w2 =>
  if r1 = 0 then
    fX2_tellStrike_n37 q1 w2
  else
    q_b (fX6_kindOf 4 s0 w2) fun r3 w4 =>
    if r3 = 5 then
      fX2_tellStrike_n37 q1 w4
    else
      fX2_tellStrike_n38 q1 1 w4
set_option maxHeartbeats 4000000 in
set_option maxRecDepth 100000 in
theorem jX2_tellStrike_n12 (X : q_X) (l : Launch) (q1 : Nat) (h1 : cC q1 = 100) (s0 : Int32) (w : q_W) : q_J X S_C l mX2_tellStrike 2 q_tI 12 [(0, .ref 3), (1, .ref q1)] [.int s0] w (fX2_tellStrike_n12 q1 s0 w) := by
  refine q_istore_n (lv' := [(2, .int s0), (0, .ref 3), (1, .ref q1)]) eX2_tellStrike_12 rfl (by decide) rfl ?_
  refine q_aload_n 1 eX2_tellStrike_13 rfl rfl ?_
  refine q_iload_n 0 eX2_tellStrike_14 rfl rfl ?_
  refine q_callVI (As := [.int s0]) (st := []) eX2_tellStrike_15 cv_2_45 (kX2_has X l s0 w) tC_3 rfl (by decide) rfl rfl (Nat.le_of_ble_eq_true rfl) (by decide) (fun r1 w2 => ?_)
  refine q_if_eq (tgt := 37) eX2_tellStrike_18 (by decide) (fun _ => ?_) (fun _ => ?_)
  · exact q_sub [1, 2] rfl (jX2_tellStrike_n37 X l q1 h1 w2)
  · refine q_aload_n 1 eX2_tellStrike_21 rfl rfl ?_
    refine q_getG (v := 4) eX2_tellStrike_22 fl_2_12 tC_3 rfl gC_3_0 ?_
    refine q_iload_n 0 eX2_tellStrike_25 rfl rfl ?_
    refine q_callVI (As := [.int s0]) (st := []) eX2_tellStrike_26 cv_2_49 (kX6_kindOf X l 4 s0 w2) tC_4 rfl (by decide) rfl rfl (Nat.le_of_ble_eq_true rfl) (by decide) (fun r3 w4 => ?_)
    refine q_iconst eX2_tellStrike_29 kiconst_5 ?_
    refine q_icmp_eq (tgt := 37) eX2_tellStrike_30 (by decide) (fun _ => ?_) (fun _ => ?_)
    · exact q_sub [1, 2] rfl (jX2_tellStrike_n37 X l q1 h1 w4)
    · refine q_iconst eX2_tellStrike_33 kiconst_1 ?_
      refine q_goto (tgt := 38) eX2_tellStrike_34 (by decide) ?_
      exact q_sub [1, 2] rfl (jX2_tellStrike_n38 X l q1 h1 1 w4)
def fX2_tellStrike (q1 : Nat) (w : q_W) : Option (Int32 × q_W) :=
  if cC q1 = 100 then
  if (Int32.ofNat (lC q1)) ≤ 0 then
    fX2_tellStrike_n12 q1 (-1) w
  else
    if q_inb 0 (lC q1) then
    fX2_tellStrike_n12 q1 (w.1 q1 (q_ix 0)) w
    else none
  else none
set_option maxHeartbeats 4000000 in
set_option maxRecDepth 100000 in
theorem kX2_tellStrike (X : q_X) (l : Launch) (q1 : Nat) (w : q_W) : q_Ct X S_C l mX2_tellStrike 2 q_tI [.ref 3, .ref q1] w (fX2_tellStrike q1 w) := by
  refine q_intro (lv := [(0, .ref 3), (1, .ref q1)]) (by decide +kernel) rfl (Nat.le_of_ble_eq_true rfl) rfl ?_
  refine q_ck (fun h1 => ?_)
  refine q_aload_n 1 eX2_tellStrike_0 rfl rfl ?_
  refine q_alen eX2_tellStrike_1 h1 rfl ?_
  refine q_if_le (tgt := 11) eX2_tellStrike_2 (by decide) (fun _ => ?_) (fun _ => ?_)
  · refine q_iconst eX2_tellStrike_11 kiconst_m1 ?_
    exact q_sub [0, 1] rfl (jX2_tellStrike_n12 X l q1 h1 (-1) w)
  · refine q_aload_n 1 eX2_tellStrike_5 rfl rfl ?_
    refine q_iconst eX2_tellStrike_6 kiconst_0 ?_
    refine q_iald eX2_tellStrike_7 h1 rfl ?_
    refine q_goto (tgt := 12) eX2_tellStrike_8 (by decide) ?_
    exact q_sub [0, 1] rfl (jX2_tellStrike_n12 X l q1 h1 (w.1 q1 (q_ix 0)) w)
def fX6_addAll_n51 (q0 : Nat) (q1 : Nat) (q2 : Nat) (rec2 : Int32 → q_W → Option (Unit × q_W)) (x3 : Int32) (w : q_W) : Option (Unit × q_W) :=
  q_b (fX6_kindOf q1 x3 w) fun r1 w2 =>
  q_b (fX6_add q0 r1 q2 w2) fun r3 w4 =>
  q_lt (x3 + 1) fun y5 =>
  rec2 y5 w4
set_option maxHeartbeats 4000000 in
set_option maxRecDepth 100000 in
theorem jX6_addAll_n51 (X : q_X) (l : Launch) (q0 : Nat) (q1 : Nat) (q2 : Nat) (h0 : cC q0 = 6) (h1 : cC q1 = 6) (h2 : cC q2 = 100) (rec2 : Int32 → q_W → Option (Unit × q_W)) (hr2 : ∀ x3 w, q_J X S_C l mX6_addAll 2 q_tV 2 [(0, .ref q0), (1, .ref q1), (2, .ref q2), (3, .int x3)] [] w (rec2 x3 w)) (x3 : Int32) (w : q_W) : q_J X S_C l mX6_addAll 2 q_tV 51 [(0, .ref q0), (1, .ref q1), (2, .ref q2), (3, .int x3)] [] w (fX6_addAll_n51 q0 q1 q2 rec2 x3 w) := by
  refine q_aload_n 0 eX6_addAll_51 rfl rfl ?_
  refine q_aload_n 1 eX6_addAll_52 rfl rfl ?_
  refine q_iload_n 3 eX6_addAll_53 rfl rfl ?_
  refine q_callVI (As := [.int x3]) (st := [.ref q0]) eX6_addAll_54 cv_6_45 (kX6_kindOf X l q1 x3 w) h1 rfl (by decide) rfl rfl (Nat.le_of_ble_eq_true rfl) (by decide) (fun r1 w2 => ?_)
  refine q_aload_n 2 eX6_addAll_57 rfl rfl ?_
  refine q_callVI (As := [.int r1, .ref q2]) (st := []) eX6_addAll_58 cv_6_49 (kX6_add X l q0 r1 q2 w2) h0 rfl (by decide) rfl rfl (Nat.le_of_ble_eq_true rfl) (by decide) (fun r3 w4 => ?_)
  refine q_pop eX6_addAll_61 rfl ?_
  refine q_ltE (fun y5 hy5 => ?_)
  refine q_iinc (v := y5) (lv' := [(3, .int y5), (0, .ref q0), (1, .ref q1), (2, .ref q2)]) 3 eX6_addAll_62 rfl hy5 (by decide) rfl ?_
  refine q_goto (tgt := 2) eX6_addAll_65 (by decide) ?_
  exact q_sub [1, 2, 3, 0] rfl (hr2 y5 w4)
def fX6_addAll_h20 (q0 : Nat) (q1 : Nat) (q2 : Nat) (rec2 : Int32 → q_W → Option (Unit × q_W)) (rec20 : Int32 → Int32 → q_W → Option (Unit × q_W)) (x3 : Int32) (x4 : Int32) (w : q_W) : Option (Unit × q_W) :=
  if 6 ≤ x4 then
    fX6_addAll_n51 q0 q1 q2 rec2 x3 w
  else
    if (Int32.ofNat (lC q2)) ≤ x4 then
      fX6_addAll_n51 q0 q1 q2 rec2 x3 w
    else
      q_b (fX6_numberOf q1 x3 x4 w) fun r1 w2 =>
      if q_inb x4 (lC q2) then
      q_lt (q_sI w2 q2 (q_ix x4) r1) fun w3 =>
      q_lt (x4 + 1) fun y4 =>
      rec20 x3 y4 w3
      else none
def fX6_addAll_l20 (q0 : Nat) (q1 : Nat) (q2 : Nat) (rec2 : Int32 → q_W → Option (Unit × q_W)) : Int32 → Int32 → q_W → Option (Unit × q_W) := q_it q_N (fX6_addAll_h20 q0 q1 q2 rec2) (fun _ _ _ => none)
set_option maxHeartbeats 4000000 in
set_option maxRecDepth 100000 in
theorem jX6_addAll_h20 (X : q_X) (l : Launch) (q0 : Nat) (q1 : Nat) (q2 : Nat) (h0 : cC q0 = 6) (h1 : cC q1 = 6) (h2 : cC q2 = 100) (rec2 : Int32 → q_W → Option (Unit × q_W)) (hr2 : ∀ x3 w, q_J X S_C l mX6_addAll 2 q_tV 2 [(0, .ref q0), (1, .ref q1), (2, .ref q2), (3, .int x3)] [] w (rec2 x3 w)) (rec20 : Int32 → Int32 → q_W → Option (Unit × q_W)) (hr20 : ∀ x3 x4 w, q_J X S_C l mX6_addAll 2 q_tV 20 [(0, .ref q0), (1, .ref q1), (2, .ref q2), (3, .int x3), (4, .int x4)] [] w (rec20 x3 x4 w)) : ∀ x3 x4 w, q_J X S_C l mX6_addAll 2 q_tV 20 [(0, .ref q0), (1, .ref q1), (2, .ref q2), (3, .int x3), (4, .int x4)] [] w (fX6_addAll_h20 q0 q1 q2 rec2 rec20 x3 x4 w) := by
  intro x3 x4 w
  refine q_iload 4 eX6_addAll_20 rfl ?_
  refine q_bipush eX6_addAll_22 kbipush_6 ?_
  refine q_icmp_ge (tgt := 51) eX6_addAll_24 (by decide) (fun _ => ?_) (fun _ => ?_)
  · exact q_sub [0, 1, 2, 3] rfl (jX6_addAll_n51 X l q0 q1 q2 h0 h1 h2 rec2 hr2 x3 w)
  · refine q_iload 4 eX6_addAll_27 rfl ?_
    refine q_aload_n 2 eX6_addAll_29 rfl rfl ?_
    refine q_alen eX6_addAll_30 h2 rfl ?_
    refine q_icmp_ge (tgt := 51) eX6_addAll_31 (by decide) (fun _ => ?_) (fun _ => ?_)
    · exact q_sub [0, 1, 2, 3] rfl (jX6_addAll_n51 X l q0 q1 q2 h0 h1 h2 rec2 hr2 x3 w)
    · refine q_aload_n 2 eX6_addAll_34 rfl rfl ?_
      refine q_iload 4 eX6_addAll_35 rfl ?_
      refine q_aload_n 1 eX6_addAll_37 rfl rfl ?_
      refine q_iload_n 3 eX6_addAll_38 rfl rfl ?_
      refine q_iload 4 eX6_addAll_39 rfl ?_
      refine q_callVI (As := [.int x3, .int x4]) (st := [.int x4, .ref q2]) eX6_addAll_41 cv_6_42 (kX6_numberOf X l q1 x3 x4 w) h1 rfl (by decide) rfl rfl (Nat.le_of_ble_eq_true rfl) (by decide) (fun r1 w2 => ?_)
      refine q_iast eX6_addAll_44 h2 rfl ?_
      refine q_ltW (fun w3 => ?_)
      refine q_ltE (fun y4 hy4 => ?_)
      refine q_iinc (v := y4) (lv' := [(4, .int y4), (0, .ref q0), (1, .ref q1), (2, .ref q2), (3, .int x3)]) 4 eX6_addAll_45 rfl hy4 (by decide) rfl ?_
      refine q_goto (tgt := 20) eX6_addAll_48 (by decide) ?_
      exact q_sub [1, 2, 3, 4, 0] rfl (hr20 x3 y4 w3)
set_option maxHeartbeats 4000000 in
set_option maxRecDepth 100000 in
theorem jX6_addAll_l20 (X : q_X) (l : Launch) (q0 : Nat) (q1 : Nat) (q2 : Nat) (h0 : cC q0 = 6) (h1 : cC q1 = 6) (h2 : cC q2 = 100) (rec2 : Int32 → q_W → Option (Unit × q_W)) (hr2 : ∀ x3 w, q_J X S_C l mX6_addAll 2 q_tV 2 [(0, .ref q0), (1, .ref q1), (2, .ref q2), (3, .int x3)] [] w (rec2 x3 w)) : ∀ x3 x4 w, q_J X S_C l mX6_addAll 2 q_tV 20 [(0, .ref q0), (1, .ref q1), (2, .ref q2), (3, .int x3), (4, .int x4)] [] w (fX6_addAll_l20 q0 q1 q2 rec2 x3 x4 w) := by
  exact q_it_ind (fun rc => ∀ x3 x4 w, q_J X S_C l mX6_addAll 2 q_tV 20 [(0, .ref q0), (1, .ref q1), (2, .ref q2), (3, .int x3), (4, .int x4)] [] w (rc x3 x4 w)) _ _ (fun _ _ _ => q_none) (fun rc hrc => jX6_addAll_h20 X l q0 q1 q2 h0 h1 h2 rec2 hr2 rc hrc) q_N
def fX6_addAll_h2 (q0 : Nat) (q1 : Nat) (q2 : Nat) (rec2 : Int32 → q_W → Option (Unit × q_W)) (x3 : Int32) (w : q_W) : Option (Unit × q_W) :=
  if (w.1 q1 2) ≤ x3 then
    some ((), w)
  else
    if 480 ≤ x3 then
      some ((), w)
    else
      fX6_addAll_l20 q0 q1 q2 rec2 x3 0 w
def fX6_addAll_l2 (q0 : Nat) (q1 : Nat) (q2 : Nat) : Int32 → q_W → Option (Unit × q_W) := q_it q_N (fX6_addAll_h2 q0 q1 q2) (fun _ _ => none)
set_option maxHeartbeats 4000000 in
set_option maxRecDepth 100000 in
theorem jX6_addAll_h2 (X : q_X) (l : Launch) (q0 : Nat) (q1 : Nat) (q2 : Nat) (h0 : cC q0 = 6) (h1 : cC q1 = 6) (h2 : cC q2 = 100) (rec2 : Int32 → q_W → Option (Unit × q_W)) (hr2 : ∀ x3 w, q_J X S_C l mX6_addAll 2 q_tV 2 [(0, .ref q0), (1, .ref q1), (2, .ref q2), (3, .int x3)] [] w (rec2 x3 w)) : ∀ x3 w, q_J X S_C l mX6_addAll 2 q_tV 2 [(0, .ref q0), (1, .ref q1), (2, .ref q2), (3, .int x3)] [] w (fX6_addAll_h2 q0 q1 q2 rec2 x3 w) := by
  intro x3 w
  refine q_iload_n 3 eX6_addAll_2 rfl rfl ?_
  refine q_aload_n 1 eX6_addAll_3 rfl rfl ?_
  refine q_getI eX6_addAll_4 fl_6_22 h1 rfl ?_
  refine q_icmp_ge (tgt := 68) eX6_addAll_7 (by decide) (fun _ => ?_) (fun _ => ?_)
  · exact q_return eX6_addAll_68 rfl
  · refine q_iload_n 3 eX6_addAll_10 rfl rfl ?_
    refine q_sipush eX6_addAll_11 ksipush_480 ?_
    refine q_icmp_ge (tgt := 68) eX6_addAll_14 (by decide) (fun _ => ?_) (fun _ => ?_)
    · exact q_return eX6_addAll_68 rfl
    · refine q_iconst eX6_addAll_17 kiconst_0 ?_
      refine q_istore (lv' := [(4, .int 0), (0, .ref q0), (1, .ref q1), (2, .ref q2), (3, .int x3)]) eX6_addAll_18 (by decide) rfl ?_
      exact q_sub [1, 2, 3, 4, 0] rfl (jX6_addAll_l20 X l q0 q1 q2 h0 h1 h2 rec2 hr2 x3 0 w)
set_option maxHeartbeats 4000000 in
set_option maxRecDepth 100000 in
theorem jX6_addAll_l2 (X : q_X) (l : Launch) (q0 : Nat) (q1 : Nat) (q2 : Nat) (h0 : cC q0 = 6) (h1 : cC q1 = 6) (h2 : cC q2 = 100) : ∀ x3 w, q_J X S_C l mX6_addAll 2 q_tV 2 [(0, .ref q0), (1, .ref q1), (2, .ref q2), (3, .int x3)] [] w (fX6_addAll_l2 q0 q1 q2 x3 w) := by
  exact q_it_ind (fun rc => ∀ x3 w, q_J X S_C l mX6_addAll 2 q_tV 2 [(0, .ref q0), (1, .ref q1), (2, .ref q2), (3, .int x3)] [] w (rc x3 w)) _ _ (fun _ _ => q_none) (fun rc hrc => jX6_addAll_h2 X l q0 q1 q2 h0 h1 h2 rc hrc) q_N
def fX6_addAll (q0 : Nat) (q1 : Nat) (q2 : Nat) (w : q_W) : Option (Unit × q_W) :=
  if cC q0 = 6 then
  if cC q1 = 6 then
  if cC q2 = 100 then
  fX6_addAll_l2 q0 q1 q2 0 w
  else none
  else none
  else none
set_option maxHeartbeats 4000000 in
set_option maxRecDepth 100000 in
theorem kX6_addAll (X : q_X) (l : Launch) (q0 : Nat) (q1 : Nat) (q2 : Nat) (w : q_W) : q_Ct X S_C l mX6_addAll 2 q_tV [.ref q0, .ref q1, .ref q2] w (fX6_addAll q0 q1 q2 w) := by
  refine q_intro (lv := [(0, .ref q0), (1, .ref q1), (2, .ref q2)]) (by decide +kernel) rfl (Nat.le_of_ble_eq_true rfl) rfl ?_
  refine q_ck (fun h0 => ?_)
  refine q_ck (fun h1 => ?_)
  refine q_ck (fun h2 => ?_)
  refine q_iconst eX6_addAll_0 kiconst_0 ?_
  refine q_istore_n (lv' := [(3, .int 0), (0, .ref q0), (1, .ref q1), (2, .ref q2)]) eX6_addAll_1 rfl (by decide) rfl ?_
  exact q_sub [1, 2, 3, 0] rfl (jX6_addAll_l2 X l q0 q1 q2 h0 h1 h2 0 w)
def fX2_tellAll (q1 : Nat) (w : q_W) : Option (Unit × q_W) :=
  if cC q1 = 6 then
  q_b (fX6_addAll 4 q1 8 w) fun r1 w2 =>
  some ((), w2)
  else none
set_option maxHeartbeats 4000000 in
set_option maxRecDepth 100000 in
theorem kX2_tellAll (X : q_X) (l : Launch) (q1 : Nat) (w : q_W) : q_Ct X S_C l mX2_tellAll 3 q_tV [.ref 3, .ref q1] w (fX2_tellAll q1 w) := by
  refine q_intro (lv := [(0, .ref 3), (1, .ref q1)]) (by decide +kernel) rfl (Nat.le_of_ble_eq_true rfl) rfl ?_
  refine q_ck (fun h1 => ?_)
  refine q_aload_n 0 eX2_tellAll_0 rfl rfl ?_
  refine q_getG (v := 4) eX2_tellAll_1 fl_2_12 tC_3 rfl gC_3_0 ?_
  refine q_aload_n 1 eX2_tellAll_4 rfl rfl ?_
  refine q_aload_n 0 eX2_tellAll_5 rfl rfl ?_
  refine q_getG (v := 8) eX2_tellAll_6 fl_2_22 tC_3 rfl gC_3_2 ?_
  refine q_callVV (As := [.ref q1, .ref 8]) (st := []) eX2_tellAll_9 cv_2_53 (kX6_addAll X l 4 q1 8 w) tC_4 rfl (by decide) rfl rfl (Nat.le_of_ble_eq_true rfl) (by decide) (fun r1 w2 => ?_)
  exact q_return eX2_tellAll_12 rfl
def fX2_markOut (a1 : Int32) (w : q_W) : Option (Unit × q_W) :=
  if a1 < 0 then
    some ((), w)
  else
    if 120 ≤ a1 then
      some ((), w)
    else
      if q_inb a1 120 then
      q_lt (q_sI w 7 (q_ix a1) (vp_nar .boolean 1)) fun w1 =>
      some ((), w1)
      else none
set_option maxHeartbeats 4000000 in
set_option maxRecDepth 100000 in
theorem kX2_markOut (X : q_X) (l : Launch) (a1 : Int32) (w : q_W) : q_Ct X S_C l mX2_markOut 0 q_tV [.ref 3, .int a1] w (fX2_markOut a1 w) := by
  refine q_intro (lv := [(0, .ref 3), (1, .int a1)]) (by decide +kernel) rfl (Nat.le_of_ble_eq_true rfl) rfl ?_
  refine q_iload_n 1 eX2_markOut_0 rfl rfl ?_
  refine q_if_lt (tgt := 17) eX2_markOut_1 (by decide) (fun _ => ?_) (fun _ => ?_)
  · exact q_return eX2_markOut_17 rfl
  · refine q_iload_n 1 eX2_markOut_4 rfl rfl ?_
    refine q_bipush eX2_markOut_5 kbipush_120 ?_
    refine q_icmp_ge (tgt := 17) eX2_markOut_7 (by decide) (fun _ => ?_) (fun _ => ?_)
    · exact q_return eX2_markOut_17 rfl
    · refine q_aload_n 0 eX2_markOut_10 rfl rfl ?_
      refine q_getG (v := 7) eX2_markOut_11 fl_2_18 tC_3 rfl gC_3_1 ?_
      refine q_iload_n 1 eX2_markOut_14 rfl rfl ?_
      refine q_iconst eX2_markOut_15 kiconst_1 ?_
      refine q_zast eX2_markOut_16 tC_7 nC_7 ?_
      refine q_ltW (fun w1 => ?_)
      exact q_return eX2_markOut_17 rfl
def fX2_findOut_n59 (rec23 : Int32 → Int32 → q_W → Option (Unit × q_W)) (x1 : Int32) (x2 : Int32) (w : q_W) : Option (Unit × q_W) :=
  q_lt (x2 + 1) fun y1 =>
  rec23 x1 y1 w
set_option maxHeartbeats 4000000 in
set_option maxRecDepth 100000 in
theorem jX2_findOut_n59 (X : q_X) (l : Launch) (rec23 : Int32 → Int32 → q_W → Option (Unit × q_W)) (hr23 : ∀ x1 x2 w, q_J X S_C l mX2_findOut 1 q_tV 23 [(0, .ref 3), (1, .int x1), (2, .int x2)] [] w (rec23 x1 x2 w)) (x1 : Int32) (x2 : Int32) (w : q_W) : q_J X S_C l mX2_findOut 1 q_tV 59 [(0, .ref 3), (1, .int x1), (2, .int x2)] [] w (fX2_findOut_n59 rec23 x1 x2 w) := by
  refine q_ltE (fun y1 hy1 => ?_)
  refine q_iinc (v := y1) (lv' := [(2, .int y1), (0, .ref 3), (1, .int x1)]) 2 eX2_findOut_59 rfl hy1 (by decide) rfl ?_
  refine q_goto (tgt := 23) eX2_findOut_62 (by decide) ?_
  exact q_sub [1, 2, 0] rfl (hr23 x1 y1 w)
def fX2_findOut_h23 (rec23 : Int32 → Int32 → q_W → Option (Unit × q_W)) (x1 : Int32) (x2 : Int32) (w : q_W) : Option (Unit × q_W) :=
  if x1 ≤ x2 then
    some ((), w)
  else
    if 120 ≤ x2 then
      some ((), w)
    else
      q_b (fX6_kindOf 4 x2 w) fun r1 w2 =>
      if r1 = 5 then
        q_b (fX6_numberOf 4 x2 0 w2) fun r3 w4 =>
        q_b (fX2_markOut r3 w4) fun r5 w6 =>
        fX2_findOut_n59 rec23 x1 x2 w6
      else
        fX2_findOut_n59 rec23 x1 x2 w2
def fX2_findOut_l23 : Int32 → Int32 → q_W → Option (Unit × q_W) := q_it q_N (fX2_findOut_h23) (fun _ _ _ => none)
set_option maxHeartbeats 4000000 in
set_option maxRecDepth 100000 in
theorem jX2_findOut_h23 (X : q_X) (l : Launch) (rec23 : Int32 → Int32 → q_W → Option (Unit × q_W)) (hr23 : ∀ x1 x2 w, q_J X S_C l mX2_findOut 1 q_tV 23 [(0, .ref 3), (1, .int x1), (2, .int x2)] [] w (rec23 x1 x2 w)) : ∀ x1 x2 w, q_J X S_C l mX2_findOut 1 q_tV 23 [(0, .ref 3), (1, .int x1), (2, .int x2)] [] w (fX2_findOut_h23 rec23 x1 x2 w) := by
  intro x1 x2 w
  refine q_iload_n 2 eX2_findOut_23 rfl rfl ?_
  refine q_iload_n 1 eX2_findOut_24 rfl rfl ?_
  refine q_icmp_ge (tgt := 65) eX2_findOut_25 (by decide) (fun _ => ?_) (fun _ => ?_)
  · exact q_return eX2_findOut_65 rfl
  · refine q_iload_n 2 eX2_findOut_28 rfl rfl ?_
    refine q_bipush eX2_findOut_29 kbipush_120 ?_
    refine q_icmp_ge (tgt := 65) eX2_findOut_31 (by decide) (fun _ => ?_) (fun _ => ?_)
    · exact q_return eX2_findOut_65 rfl
    · refine q_aload_n 0 eX2_findOut_34 rfl rfl ?_
      refine q_getG (v := 4) eX2_findOut_35 fl_2_12 tC_3 rfl gC_3_0 ?_
      refine q_iload_n 2 eX2_findOut_38 rfl rfl ?_
      refine q_callVI (As := [.int x2]) (st := []) eX2_findOut_39 cv_2_49 (kX6_kindOf X l 4 x2 w) tC_4 rfl (by decide) rfl rfl (Nat.le_of_ble_eq_true rfl) (by decide) (fun r1 w2 => ?_)
      refine q_iconst eX2_findOut_42 kiconst_5 ?_
      refine q_icmp_ne (tgt := 59) eX2_findOut_43 (by decide) (fun _ => ?_) (fun _ => ?_)
      · refine q_aload_n 0 eX2_findOut_46 rfl rfl ?_
        refine q_aload_n 0 eX2_findOut_47 rfl rfl ?_
        refine q_getG (v := 4) eX2_findOut_48 fl_2_12 tC_3 rfl gC_3_0 ?_
        refine q_iload_n 2 eX2_findOut_51 rfl rfl ?_
        refine q_iconst eX2_findOut_52 kiconst_0 ?_
        refine q_callVI (As := [.int x2, .int 0]) (st := [.ref 3]) eX2_findOut_53 cv_2_72 (kX6_numberOf X l 4 x2 0 w2) tC_4 rfl (by decide) rfl rfl (Nat.le_of_ble_eq_true rfl) (by decide) (fun r3 w4 => ?_)
        refine q_callVV (As := [.int r3]) (st := []) eX2_findOut_56 cv_2_76 (kX2_markOut X l r3 w4) tC_3 rfl (by decide) rfl rfl (Nat.le_of_ble_eq_true rfl) (by decide) (fun r5 w6 => ?_)
        exact q_sub [0, 1, 2] rfl (jX2_findOut_n59 X l rec23 hr23 x1 x2 w6)
      · exact q_sub [0, 1, 2] rfl (jX2_findOut_n59 X l rec23 hr23 x1 x2 w2)
set_option maxHeartbeats 4000000 in
set_option maxRecDepth 100000 in
theorem jX2_findOut_l23 (X : q_X) (l : Launch) : ∀ x1 x2 w, q_J X S_C l mX2_findOut 1 q_tV 23 [(0, .ref 3), (1, .int x1), (2, .int x2)] [] w (fX2_findOut_l23 x1 x2 w) := by
  exact q_it_ind (fun rc => ∀ x1 x2 w, q_J X S_C l mX2_findOut 1 q_tV 23 [(0, .ref 3), (1, .int x1), (2, .int x2)] [] w (rc x1 x2 w)) _ _ (fun _ _ _ => q_none) (fun rc hrc => jX2_findOut_h23 X l rc hrc) q_N
def fX2_findOut_h2 (rec2 : Int32 → Int32 → q_W → Option (Unit × q_W)) (x1 : Int32) (x2 : Int32) (w : q_W) : Option (Unit × q_W) :=
  if 120 ≤ x2 then
    fX2_findOut_l23 x1 0 w
  else
    if q_inb x2 120 then
    q_lt (q_sI w 7 (q_ix x2) (vp_nar .boolean 0)) fun w1 =>
    q_lt (x2 + 1) fun y2 =>
    rec2 x1 y2 w1
    else none
def fX2_findOut_l2 : Int32 → Int32 → q_W → Option (Unit × q_W) := q_it q_N (fX2_findOut_h2) (fun _ _ _ => none)
set_option maxHeartbeats 4000000 in
set_option maxRecDepth 100000 in
theorem jX2_findOut_h2 (X : q_X) (l : Launch) (rec2 : Int32 → Int32 → q_W → Option (Unit × q_W)) (hr2 : ∀ x1 x2 w, q_J X S_C l mX2_findOut 1 q_tV 2 [(0, .ref 3), (1, .int x1), (2, .int x2)] [] w (rec2 x1 x2 w)) : ∀ x1 x2 w, q_J X S_C l mX2_findOut 1 q_tV 2 [(0, .ref 3), (1, .int x1), (2, .int x2)] [] w (fX2_findOut_h2 rec2 x1 x2 w) := by
  intro x1 x2 w
  refine q_iload_n 2 eX2_findOut_2 rfl rfl ?_
  refine q_bipush eX2_findOut_3 kbipush_120 ?_
  refine q_icmp_ge (tgt := 21) eX2_findOut_5 (by decide) (fun _ => ?_) (fun _ => ?_)
  · refine q_iconst eX2_findOut_21 kiconst_0 ?_
    refine q_istore_n (lv' := [(2, .int 0), (0, .ref 3), (1, .int x1)]) eX2_findOut_22 rfl (by decide) rfl ?_
    exact q_sub [1, 2, 0] rfl (jX2_findOut_l23 X l x1 0 w)
  · refine q_aload_n 0 eX2_findOut_8 rfl rfl ?_
    refine q_getG (v := 7) eX2_findOut_9 fl_2_18 tC_3 rfl gC_3_1 ?_
    refine q_iload_n 2 eX2_findOut_12 rfl rfl ?_
    refine q_iconst eX2_findOut_13 kiconst_0 ?_
    refine q_zast eX2_findOut_14 tC_7 nC_7 ?_
    refine q_ltW (fun w1 => ?_)
    refine q_ltE (fun y2 hy2 => ?_)
    refine q_iinc (v := y2) (lv' := [(2, .int y2), (0, .ref 3), (1, .int x1)]) 2 eX2_findOut_15 rfl hy2 (by decide) rfl ?_
    refine q_goto (tgt := 2) eX2_findOut_18 (by decide) ?_
    exact q_sub [1, 2, 0] rfl (hr2 x1 y2 w1)
set_option maxHeartbeats 4000000 in
set_option maxRecDepth 100000 in
theorem jX2_findOut_l2 (X : q_X) (l : Launch) : ∀ x1 x2 w, q_J X S_C l mX2_findOut 1 q_tV 2 [(0, .ref 3), (1, .int x1), (2, .int x2)] [] w (fX2_findOut_l2 x1 x2 w) := by
  exact q_it_ind (fun rc => ∀ x1 x2 w, q_J X S_C l mX2_findOut 1 q_tV 2 [(0, .ref 3), (1, .int x1), (2, .int x2)] [] w (rc x1 x2 w)) _ _ (fun _ _ _ => q_none) (fun rc hrc => jX2_findOut_h2 X l rc hrc) q_N
def fX2_findOut (a1 : Int32) (w : q_W) : Option (Unit × q_W) :=
  fX2_findOut_l2 a1 0 w
set_option maxHeartbeats 4000000 in
set_option maxRecDepth 100000 in
theorem kX2_findOut (X : q_X) (l : Launch) (a1 : Int32) (w : q_W) : q_Ct X S_C l mX2_findOut 1 q_tV [.ref 3, .int a1] w (fX2_findOut a1 w) := by
  refine q_intro (lv := [(0, .ref 3), (1, .int a1)]) (by decide +kernel) rfl (Nat.le_of_ble_eq_true rfl) rfl ?_
  refine q_iconst eX2_findOut_0 kiconst_0 ?_
  refine q_istore_n (lv' := [(2, .int 0), (0, .ref 3), (1, .int a1)]) eX2_findOut_1 rfl (by decide) rfl ?_
  exact q_sub [1, 2, 0] rfl (jX2_findOut_l2 X l a1 0 w)
def fX2_isOut (a1 : Int32) (a2 : Int32) (w : q_W) : Option (Int32 × q_W) :=
  q_b (fX2_findOut a2 w) fun r1 w2 =>
  if a1 < 0 then
    some (0, w2)
  else
    if 120 ≤ a1 then
      some (0, w2)
    else
      if q_inb a1 120 then
      if (w2.1 7 (q_ix a1)) = 0 then
        some (0, w2)
      else
        some (1, w2)
      else none
set_option maxHeartbeats 4000000 in
set_option maxRecDepth 100000 in
theorem kX2_isOut (X : q_X) (l : Launch) (a1 : Int32) (a2 : Int32) (w : q_W) : q_Ct X S_C l mX2_isOut 2 q_tI [.ref 3, .int a1, .int a2] w (fX2_isOut a1 a2 w) := by
  refine q_intro (lv := [(0, .ref 3), (1, .int a1), (2, .int a2)]) (by decide +kernel) rfl (Nat.le_of_ble_eq_true rfl) rfl ?_
  refine q_aload_n 0 eX2_isOut_0 rfl rfl ?_
  refine q_iload_n 2 eX2_isOut_1 rfl rfl ?_
  refine q_callVV (As := [.int a2]) (st := []) eX2_isOut_2 cv_2_57 (kX2_findOut X l a2 w) tC_3 rfl (by decide) rfl rfl (Nat.le_of_ble_eq_true rfl) (by decide) (fun r1 w2 => ?_)
  refine q_iload_n 1 eX2_isOut_5 rfl rfl ?_
  refine q_if_lt (tgt := 28) eX2_isOut_6 (by decide) (fun _ => ?_) (fun _ => ?_)
  · refine q_iconst eX2_isOut_28 kiconst_0 ?_
    exact q_zret eX2_isOut_29 rfl rfl
  · refine q_iload_n 1 eX2_isOut_9 rfl rfl ?_
    refine q_bipush eX2_isOut_10 kbipush_120 ?_
    refine q_icmp_ge (tgt := 28) eX2_isOut_12 (by decide) (fun _ => ?_) (fun _ => ?_)
    · refine q_iconst eX2_isOut_28 kiconst_0 ?_
      exact q_zret eX2_isOut_29 rfl rfl
    · refine q_aload_n 0 eX2_isOut_15 rfl rfl ?_
      refine q_getG (v := 7) eX2_isOut_16 fl_2_18 tC_3 rfl gC_3_1 ?_
      refine q_iload_n 1 eX2_isOut_19 rfl rfl ?_
      refine q_zald eX2_isOut_20 tC_7 nC_7 ?_
      refine q_if_eq (tgt := 28) eX2_isOut_21 (by decide) (fun _ => ?_) (fun _ => ?_)
      · refine q_iconst eX2_isOut_28 kiconst_0 ?_
        exact q_zret eX2_isOut_29 rfl rfl
      · refine q_iconst eX2_isOut_24 kiconst_1 ?_
        refine q_goto (tgt := 29) eX2_isOut_25 (by decide) ?_
        exact q_zret eX2_isOut_29 rfl rfl
def fX2_laysKnown_n44 (rec9 : Int32 → Int32 → Int32 → q_W → Option (Int32 × q_W)) (x1 : Int32) (x2 : Int32) (x3 : Int32) (w : q_W) : Option (Int32 × q_W) :=
  q_lt (x3 + 1) fun y1 =>
  rec9 x1 x2 y1 w
set_option maxHeartbeats 4000000 in
set_option maxRecDepth 100000 in
theorem jX2_laysKnown_n44 (X : q_X) (l : Launch) (rec9 : Int32 → Int32 → Int32 → q_W → Option (Int32 × q_W)) (hr9 : ∀ x1 x2 x3 w, q_J X S_C l mX2_laysKnown 2 q_tI 9 [(0, .ref 3), (1, .int x1), (2, .int x2), (3, .int x3)] [] w (rec9 x1 x2 x3 w)) (x1 : Int32) (x2 : Int32) (x3 : Int32) (w : q_W) : q_J X S_C l mX2_laysKnown 2 q_tI 44 [(0, .ref 3), (1, .int x1), (2, .int x2), (3, .int x3)] [] w (fX2_laysKnown_n44 rec9 x1 x2 x3 w) := by
  refine q_ltE (fun y1 hy1 => ?_)
  refine q_iinc (v := y1) (lv' := [(3, .int y1), (0, .ref 3), (1, .int x1), (2, .int x2)]) 3 eX2_laysKnown_44 rfl hy1 (by decide) rfl ?_
  refine q_goto (tgt := 9) eX2_laysKnown_47 (by decide) ?_
  exact q_sub [1, 2, 3, 0] rfl (hr9 x1 x2 y1 w)
def fX2_laysKnown_h9 (rec9 : Int32 → Int32 → Int32 → q_W → Option (Int32 × q_W)) (x1 : Int32) (x2 : Int32) (x3 : Int32) (w : q_W) : Option (Int32 × q_W) :=
  if x1 ≤ x3 then
    some (x2, w)
  else
    if 120 ≤ x3 then
      some (x2, w)
    else
      if q_inb x3 120 then
      if (w.1 7 (q_ix x3)) = 0 then
        q_b (fX6_kindOf 4 x3 w) fun r1 w2 =>
        if r1 = 4 then
          q_lt (x2 + 1) fun y3 =>
          fX2_laysKnown_n44 rec9 x1 y3 x3 w2
        else
          fX2_laysKnown_n44 rec9 x1 x2 x3 w2
      else
        fX2_laysKnown_n44 rec9 x1 x2 x3 w
      else none
def fX2_laysKnown_l9 : Int32 → Int32 → Int32 → q_W → Option (Int32 × q_W) := q_it q_N (fX2_laysKnown_h9) (fun _ _ _ _ => none)
set_option maxHeartbeats 4000000 in
set_option maxRecDepth 100000 in
theorem jX2_laysKnown_h9 (X : q_X) (l : Launch) (rec9 : Int32 → Int32 → Int32 → q_W → Option (Int32 × q_W)) (hr9 : ∀ x1 x2 x3 w, q_J X S_C l mX2_laysKnown 2 q_tI 9 [(0, .ref 3), (1, .int x1), (2, .int x2), (3, .int x3)] [] w (rec9 x1 x2 x3 w)) : ∀ x1 x2 x3 w, q_J X S_C l mX2_laysKnown 2 q_tI 9 [(0, .ref 3), (1, .int x1), (2, .int x2), (3, .int x3)] [] w (fX2_laysKnown_h9 rec9 x1 x2 x3 w) := by
  intro x1 x2 x3 w
  refine q_iload_n 3 eX2_laysKnown_9 rfl rfl ?_
  refine q_iload_n 1 eX2_laysKnown_10 rfl rfl ?_
  refine q_icmp_ge (tgt := 50) eX2_laysKnown_11 (by decide) (fun _ => ?_) (fun _ => ?_)
  · refine q_iload_n 2 eX2_laysKnown_50 rfl rfl ?_
    exact q_ireturn eX2_laysKnown_51 rfl
  · refine q_iload_n 3 eX2_laysKnown_14 rfl rfl ?_
    refine q_bipush eX2_laysKnown_15 kbipush_120 ?_
    refine q_icmp_ge (tgt := 50) eX2_laysKnown_17 (by decide) (fun _ => ?_) (fun _ => ?_)
    · refine q_iload_n 2 eX2_laysKnown_50 rfl rfl ?_
      exact q_ireturn eX2_laysKnown_51 rfl
    · refine q_aload_n 0 eX2_laysKnown_20 rfl rfl ?_
      refine q_getG (v := 7) eX2_laysKnown_21 fl_2_18 tC_3 rfl gC_3_1 ?_
      refine q_iload_n 3 eX2_laysKnown_24 rfl rfl ?_
      refine q_zald eX2_laysKnown_25 tC_7 nC_7 ?_
      refine q_if_ne (tgt := 44) eX2_laysKnown_26 (by decide) (fun _ => ?_) (fun _ => ?_)
      · refine q_aload_n 0 eX2_laysKnown_29 rfl rfl ?_
        refine q_getG (v := 4) eX2_laysKnown_30 fl_2_12 tC_3 rfl gC_3_0 ?_
        refine q_iload_n 3 eX2_laysKnown_33 rfl rfl ?_
        refine q_callVI (As := [.int x3]) (st := []) eX2_laysKnown_34 cv_2_49 (kX6_kindOf X l 4 x3 w) tC_4 rfl (by decide) rfl rfl (Nat.le_of_ble_eq_true rfl) (by decide) (fun r1 w2 => ?_)
        refine q_iconst eX2_laysKnown_37 kiconst_4 ?_
        refine q_icmp_ne (tgt := 44) eX2_laysKnown_38 (by decide) (fun _ => ?_) (fun _ => ?_)
        · refine q_ltE (fun y3 hy3 => ?_)
          refine q_iinc (v := y3) (lv' := [(2, .int y3), (0, .ref 3), (1, .int x1), (3, .int x3)]) 2 eX2_laysKnown_41 rfl hy3 (by decide) rfl ?_
          exact q_sub [1, 2, 0, 3] rfl (jX2_laysKnown_n44 X l rec9 hr9 x1 y3 x3 w2)
        · exact q_sub [0, 1, 2, 3] rfl (jX2_laysKnown_n44 X l rec9 hr9 x1 x2 x3 w2)
      · exact q_sub [0, 1, 2, 3] rfl (jX2_laysKnown_n44 X l rec9 hr9 x1 x2 x3 w)
set_option maxHeartbeats 4000000 in
set_option maxRecDepth 100000 in
theorem jX2_laysKnown_l9 (X : q_X) (l : Launch) : ∀ x1 x2 x3 w, q_J X S_C l mX2_laysKnown 2 q_tI 9 [(0, .ref 3), (1, .int x1), (2, .int x2), (3, .int x3)] [] w (fX2_laysKnown_l9 x1 x2 x3 w) := by
  exact q_it_ind (fun rc => ∀ x1 x2 x3 w, q_J X S_C l mX2_laysKnown 2 q_tI 9 [(0, .ref 3), (1, .int x1), (2, .int x2), (3, .int x3)] [] w (rc x1 x2 x3 w)) _ _ (fun _ _ _ _ => q_none) (fun rc hrc => jX2_laysKnown_h9 X l rc hrc) q_N
def fX2_laysKnown (a1 : Int32) (w : q_W) : Option (Int32 × q_W) :=
  q_b (fX2_findOut a1 w) fun r1 w2 =>
  fX2_laysKnown_l9 a1 0 0 w2
set_option maxHeartbeats 4000000 in
set_option maxRecDepth 100000 in
theorem kX2_laysKnown (X : q_X) (l : Launch) (a1 : Int32) (w : q_W) : q_Ct X S_C l mX2_laysKnown 2 q_tI [.ref 3, .int a1] w (fX2_laysKnown a1 w) := by
  refine q_intro (lv := [(0, .ref 3), (1, .int a1)]) (by decide +kernel) rfl (Nat.le_of_ble_eq_true rfl) rfl ?_
  refine q_aload_n 0 eX2_laysKnown_0 rfl rfl ?_
  refine q_iload_n 1 eX2_laysKnown_1 rfl rfl ?_
  refine q_callVV (As := [.int a1]) (st := []) eX2_laysKnown_2 cv_2_57 (kX2_findOut X l a1 w) tC_3 rfl (by decide) rfl rfl (Nat.le_of_ble_eq_true rfl) (by decide) (fun r1 w2 => ?_)
  refine q_iconst eX2_laysKnown_5 kiconst_0 ?_
  refine q_istore_n (lv' := [(2, .int 0), (0, .ref 3), (1, .int a1)]) eX2_laysKnown_6 rfl (by decide) rfl ?_
  refine q_iconst eX2_laysKnown_7 kiconst_0 ?_
  refine q_istore_n (lv' := [(3, .int 0), (2, .int 0), (0, .ref 3), (1, .int a1)]) eX2_laysKnown_8 rfl (by decide) rfl ?_
  exact q_sub [2, 3, 1, 0] rfl (jX2_laysKnown_l9 X l a1 0 0 w2)
def fX6_isStroke (q0 : Nat) (a1 : Int32) (w : q_W) : Option (Int32 × q_W) :=
  if cC q0 = 6 then
  q_b (fX6_kindOf q0 a1 w) fun r1 w2 =>
  if r1 < 0 then
    some (0, w2)
  else
    if 3 < r1 then
      some (0, w2)
    else
      some (1, w2)
  else none
set_option maxHeartbeats 4000000 in
set_option maxRecDepth 100000 in
theorem kX6_isStroke (X : q_X) (l : Launch) (q0 : Nat) (a1 : Int32) (w : q_W) : q_Ct X S_C l mX6_isStroke 1 q_tI [.ref q0, .int a1] w (fX6_isStroke q0 a1 w) := by
  refine q_intro (lv := [(0, .ref q0), (1, .int a1)]) (by decide +kernel) rfl (Nat.le_of_ble_eq_true rfl) rfl ?_
  refine q_ck (fun h0 => ?_)
  refine q_aload_n 0 eX6_isStroke_0 rfl rfl ?_
  refine q_iload_n 1 eX6_isStroke_1 rfl rfl ?_
  refine q_callVI (As := [.int a1]) (st := []) eX6_isStroke_2 cv_6_45 (kX6_kindOf X l q0 a1 w) h0 rfl (by decide) rfl rfl (Nat.le_of_ble_eq_true rfl) (by decide) (fun r1 w2 => ?_)
  refine q_istore_n (lv' := [(2, .int r1), (0, .ref q0), (1, .int a1)]) eX6_isStroke_5 rfl (by decide) rfl ?_
  refine q_iload_n 0 eX6_isStroke_6 rfl rfl ?_
  refine q_if_lt (tgt := 19) eX6_isStroke_7 (by decide) (fun _ => ?_) (fun _ => ?_)
  · refine q_iconst eX6_isStroke_19 kiconst_0 ?_
    exact q_zret eX6_isStroke_20 rfl rfl
  · refine q_iload_n 0 eX6_isStroke_10 rfl rfl ?_
    refine q_iconst eX6_isStroke_11 kiconst_3 ?_
    refine q_icmp_gt (tgt := 19) eX6_isStroke_12 (by decide) (fun _ => ?_) (fun _ => ?_)
    · refine q_iconst eX6_isStroke_19 kiconst_0 ?_
      exact q_zret eX6_isStroke_20 rfl rfl
    · refine q_iconst eX6_isStroke_15 kiconst_1 ?_
      refine q_goto (tgt := 20) eX6_isStroke_16 (by decide) ?_
      exact q_zret eX6_isStroke_20 rfl rfl
def fX2_pickStrokes_n98 (rec20 : Int32 → Int32 → Int32 → Int32 → q_W → Option (Int32 × q_W)) (x2 : Int32) (x3 : Int32) (x4 : Int32) (x5 : Int32) (w : q_W) : Option (Int32 × q_W) :=
  q_lt (x5 + 1) fun y1 =>
  rec20 x2 x3 x4 y1 w
set_option maxHeartbeats 4000000 in
set_option maxRecDepth 100000 in
theorem jX2_pickStrokes_n98 (X : q_X) (l : Launch) (rec20 : Int32 → Int32 → Int32 → Int32 → q_W → Option (Int32 × q_W)) (hr20 : ∀ x2 x3 x4 x5 w, q_J X S_C l mX2_pickStrokes 2 q_tI 20 [(0, .ref 3), (1, .ref 12), (2, .int x2), (3, .int x3), (4, .int x4), (5, .int x5)] [] w (rec20 x2 x3 x4 x5 w)) (x2 : Int32) (x3 : Int32) (x4 : Int32) (x5 : Int32) (w : q_W) : q_J X S_C l mX2_pickStrokes 2 q_tI 98 [(0, .ref 3), (1, .ref 12), (2, .int x2), (3, .int x3), (4, .int x4), (5, .int x5)] [] w (fX2_pickStrokes_n98 rec20 x2 x3 x4 x5 w) := by
  refine q_ltE (fun y1 hy1 => ?_)
  refine q_iinc (v := y1) (lv' := [(5, .int y1), (0, .ref 3), (1, .ref 12), (2, .int x2), (3, .int x3), (4, .int x4)]) 5 eX2_pickStrokes_98 rfl hy1 (by decide) rfl ?_
  refine q_goto (tgt := 20) eX2_pickStrokes_101 (by decide) ?_
  exact q_sub [1, 2, 3, 4, 5, 0] rfl (hr20 x2 x3 x4 y1 w)
def fX2_pickStrokes_h20 (rec20 : Int32 → Int32 → Int32 → Int32 → q_W → Option (Int32 × q_W)) (x2 : Int32) (x3 : Int32) (x4 : Int32) (x5 : Int32) (w : q_W) : Option (Int32 × q_W) :=
  if x2 ≤ x5 then
    some ((-1), w)
  else
    if 120 ≤ x5 then
      some ((-1), w)
    else
      if q_inb x5 120 then
      if (w.1 7 (q_ix x5)) = 0 then
        q_b (fX6_kindOf 4 x5 w) fun r1 w2 =>
        if r1 = 4 then
          if x4 = x3 then
            some (x5, w2)
          else
            q_lt (x4 + 1) fun y3 =>
            fX2_pickStrokes_n98 rec20 x2 x3 y3 x5 w2
        else
          if x4 = x3 then
            q_b (fX6_isStroke 4 x5 w2) fun r4 w5 =>
            if r4 = 0 then
              fX2_pickStrokes_n98 rec20 x2 x3 x4 x5 w5
            else
              q_b (fX0_pick x5 w5) fun r6 w7 =>
              fX2_pickStrokes_n98 rec20 x2 x3 x4 x5 w7
          else
            fX2_pickStrokes_n98 rec20 x2 x3 x4 x5 w2
      else
        fX2_pickStrokes_n98 rec20 x2 x3 x4 x5 w
      else none
def fX2_pickStrokes_l20 : Int32 → Int32 → Int32 → Int32 → q_W → Option (Int32 × q_W) := q_it q_N (fX2_pickStrokes_h20) (fun _ _ _ _ _ => none)
set_option maxHeartbeats 4000000 in
set_option maxRecDepth 100000 in
theorem jX2_pickStrokes_h20 (X : q_X) (l : Launch) (rec20 : Int32 → Int32 → Int32 → Int32 → q_W → Option (Int32 × q_W)) (hr20 : ∀ x2 x3 x4 x5 w, q_J X S_C l mX2_pickStrokes 2 q_tI 20 [(0, .ref 3), (1, .ref 12), (2, .int x2), (3, .int x3), (4, .int x4), (5, .int x5)] [] w (rec20 x2 x3 x4 x5 w)) : ∀ x2 x3 x4 x5 w, q_J X S_C l mX2_pickStrokes 2 q_tI 20 [(0, .ref 3), (1, .ref 12), (2, .int x2), (3, .int x3), (4, .int x4), (5, .int x5)] [] w (fX2_pickStrokes_h20 rec20 x2 x3 x4 x5 w) := by
  intro x2 x3 x4 x5 w
  refine q_iload 5 eX2_pickStrokes_20 rfl ?_
  refine q_iload_n 2 eX2_pickStrokes_22 rfl rfl ?_
  refine q_icmp_ge (tgt := 104) eX2_pickStrokes_23 (by decide) (fun _ => ?_) (fun _ => ?_)
  · refine q_iconst eX2_pickStrokes_104 kiconst_m1 ?_
    exact q_ireturn eX2_pickStrokes_105 rfl
  · refine q_iload 5 eX2_pickStrokes_26 rfl ?_
    refine q_bipush eX2_pickStrokes_28 kbipush_120 ?_
    refine q_icmp_ge (tgt := 104) eX2_pickStrokes_30 (by decide) (fun _ => ?_) (fun _ => ?_)
    · refine q_iconst eX2_pickStrokes_104 kiconst_m1 ?_
      exact q_ireturn eX2_pickStrokes_105 rfl
    · refine q_aload_n 0 eX2_pickStrokes_33 rfl rfl ?_
      refine q_getG (v := 7) eX2_pickStrokes_34 fl_2_18 tC_3 rfl gC_3_1 ?_
      refine q_iload 5 eX2_pickStrokes_37 rfl ?_
      refine q_zald eX2_pickStrokes_39 tC_7 nC_7 ?_
      refine q_if_eq (tgt := 46) eX2_pickStrokes_40 (by decide) (fun _ => ?_) (fun _ => ?_)
      · refine q_aload_n 0 eX2_pickStrokes_46 rfl rfl ?_
        refine q_getG (v := 4) eX2_pickStrokes_47 fl_2_12 tC_3 rfl gC_3_0 ?_
        refine q_iload 5 eX2_pickStrokes_50 rfl ?_
        refine q_callVI (As := [.int x5]) (st := []) eX2_pickStrokes_52 cv_2_49 (kX6_kindOf X l 4 x5 w) tC_4 rfl (by decide) rfl rfl (Nat.le_of_ble_eq_true rfl) (by decide) (fun r1 w2 => ?_)
        refine q_iconst eX2_pickStrokes_55 kiconst_4 ?_
        refine q_icmp_ne (tgt := 74) eX2_pickStrokes_56 (by decide) (fun _ => ?_) (fun _ => ?_)
        · refine q_iload 4 eX2_pickStrokes_59 rfl ?_
          refine q_iload_n 3 eX2_pickStrokes_61 rfl rfl ?_
          refine q_icmp_ne (tgt := 68) eX2_pickStrokes_62 (by decide) (fun _ => ?_) (fun _ => ?_)
          · refine q_iload 5 eX2_pickStrokes_65 rfl ?_
            exact q_ireturn eX2_pickStrokes_67 rfl
          · refine q_ltE (fun y3 hy3 => ?_)
            refine q_iinc (v := y3) (lv' := [(4, .int y3), (0, .ref 3), (1, .ref 12), (2, .int x2), (3, .int x3), (5, .int x5)]) 4 eX2_pickStrokes_68 rfl hy3 (by decide) rfl ?_
            refine q_goto (tgt := 98) eX2_pickStrokes_71 (by decide) ?_
            exact q_sub [1, 2, 3, 4, 0, 5] rfl (jX2_pickStrokes_n98 X l rec20 hr20 x2 x3 y3 x5 w2)
        · refine q_iload 4 eX2_pickStrokes_74 rfl ?_
          refine q_iload_n 3 eX2_pickStrokes_76 rfl rfl ?_
          refine q_icmp_ne (tgt := 98) eX2_pickStrokes_77 (by decide) (fun _ => ?_) (fun _ => ?_)
          · refine q_aload_n 0 eX2_pickStrokes_80 rfl rfl ?_
            refine q_getG (v := 4) eX2_pickStrokes_81 fl_2_12 tC_3 rfl gC_3_0 ?_
            refine q_iload 5 eX2_pickStrokes_84 rfl ?_
            refine q_callVI (As := [.int x5]) (st := []) eX2_pickStrokes_86 cv_2_66 (kX6_isStroke X l 4 x5 w2) tC_4 rfl (by decide) rfl rfl (Nat.le_of_ble_eq_true rfl) (by decide) (fun r4 w5 => ?_)
            refine q_if_eq (tgt := 98) eX2_pickStrokes_89 (by decide) (fun _ => ?_) (fun _ => ?_)
            · exact q_sub [0, 1, 2, 3, 4, 5] rfl (jX2_pickStrokes_n98 X l rec20 hr20 x2 x3 x4 x5 w5)
            · refine q_aload_n 1 eX2_pickStrokes_92 rfl rfl ?_
              refine q_iload 5 eX2_pickStrokes_93 rfl ?_
              refine q_callVV (As := [.int x5]) (st := []) eX2_pickStrokes_95 cv_2_69 (kX0_pick X l x5 w5) tC_12 rfl (by decide) rfl rfl (Nat.le_of_ble_eq_true rfl) (by decide) (fun r6 w7 => ?_)
              exact q_sub [0, 1, 2, 3, 4, 5] rfl (jX2_pickStrokes_n98 X l rec20 hr20 x2 x3 x4 x5 w7)
          · exact q_sub [0, 1, 2, 3, 4, 5] rfl (jX2_pickStrokes_n98 X l rec20 hr20 x2 x3 x4 x5 w2)
      · refine q_goto (tgt := 98) eX2_pickStrokes_43 (by decide) ?_
        exact q_sub [0, 1, 2, 3, 4, 5] rfl (jX2_pickStrokes_n98 X l rec20 hr20 x2 x3 x4 x5 w)
set_option maxHeartbeats 4000000 in
set_option maxRecDepth 100000 in
theorem jX2_pickStrokes_l20 (X : q_X) (l : Launch) : ∀ x2 x3 x4 x5 w, q_J X S_C l mX2_pickStrokes 2 q_tI 20 [(0, .ref 3), (1, .ref 12), (2, .int x2), (3, .int x3), (4, .int x4), (5, .int x5)] [] w (fX2_pickStrokes_l20 x2 x3 x4 x5 w) := by
  exact q_it_ind (fun rc => ∀ x2 x3 x4 x5 w, q_J X S_C l mX2_pickStrokes 2 q_tI 20 [(0, .ref 3), (1, .ref 12), (2, .int x2), (3, .int x3), (4, .int x4), (5, .int x5)] [] w (rc x2 x3 x4 x5 w)) _ _ (fun _ _ _ _ _ => q_none) (fun rc hrc => jX2_pickStrokes_h20 X l rc hrc) q_N
def fX2_pickStrokes (a2 : Int32) (a3 : Int32) (w : q_W) : Option (Int32 × q_W) :=
  q_b (fX2_findOut a2 w) fun r1 w2 =>
  q_b (fX0_begin 4 a3 w2) fun r3 w4 =>
  fX2_pickStrokes_l20 a2 a3 0 0 w4
set_option maxHeartbeats 4000000 in
set_option maxRecDepth 100000 in
theorem kX2_pickStrokes (X : q_X) (l : Launch) (a2 : Int32) (a3 : Int32) (w : q_W) : q_Ct X S_C l mX2_pickStrokes 2 q_tI [.ref 3, .ref 12, .int a2, .int a3] w (fX2_pickStrokes a2 a3 w) := by
  refine q_intro (lv := [(0, .ref 3), (1, .ref 12), (2, .int a2), (3, .int a3)]) (by decide +kernel) rfl (Nat.le_of_ble_eq_true rfl) rfl ?_
  refine q_aload_n 0 eX2_pickStrokes_0 rfl rfl ?_
  refine q_iload_n 2 eX2_pickStrokes_1 rfl rfl ?_
  refine q_callVV (As := [.int a2]) (st := []) eX2_pickStrokes_2 cv_2_57 (kX2_findOut X l a2 w) tC_3 rfl (by decide) rfl rfl (Nat.le_of_ble_eq_true rfl) (by decide) (fun r1 w2 => ?_)
  refine q_aload_n 1 eX2_pickStrokes_5 rfl rfl ?_
  refine q_aload_n 0 eX2_pickStrokes_6 rfl rfl ?_
  refine q_getG (v := 4) eX2_pickStrokes_7 fl_2_12 tC_3 rfl gC_3_0 ?_
  refine q_iload_n 3 eX2_pickStrokes_10 rfl rfl ?_
  refine q_callVV (As := [.ref 4, .int a3]) (st := []) eX2_pickStrokes_11 cv_2_60 (kX0_begin X l 4 a3 w2) tC_12 rfl (by decide) rfl rfl (Nat.le_of_ble_eq_true rfl) (by decide) (fun r3 w4 => ?_)
  refine q_iconst eX2_pickStrokes_14 kiconst_0 ?_
  refine q_istore (lv' := [(4, .int 0), (0, .ref 3), (1, .ref 12), (2, .int a2), (3, .int a3)]) eX2_pickStrokes_15 (by decide) rfl ?_
  refine q_iconst eX2_pickStrokes_17 kiconst_0 ?_
  refine q_istore (lv' := [(5, .int 0), (4, .int 0), (0, .ref 3), (1, .ref 12), (2, .int a2), (3, .int a3)]) eX2_pickStrokes_18 (by decide) rfl ?_
  exact q_sub [2, 3, 4, 5, 1, 0] rfl (jX2_pickStrokes_l20 X l a2 a3 0 0 w4)
def fX3_bestMade (w : q_W) : Option (Int32 × q_W) :=
  some ((w.1 37 10), w)
set_option maxHeartbeats 4000000 in
set_option maxRecDepth 100000 in
theorem kX3_bestMade (X : q_X) (l : Launch) (w : q_W) : q_Ct X S_C l mX3_bestMade 0 q_tI [.ref 37] w (fX3_bestMade w) := by
  refine q_intro (lv := [(0, .ref 37)]) (by decide +kernel) rfl (Nat.le_of_ble_eq_true rfl) rfl ?_
  refine q_aload_n 0 eX3_bestMade_0 rfl rfl ?_
  refine q_getI eX3_bestMade_1 fl_3_45 tC_37 rfl ?_
  exact q_ireturn eX3_bestMade_4 rfl
def fX3_bestOff (w : q_W) : Option (Int32 × q_W) :=
  some ((w.1 37 11), w)
set_option maxHeartbeats 4000000 in
set_option maxRecDepth 100000 in
theorem kX3_bestOff (X : q_X) (l : Launch) (w : q_W) : q_Ct X S_C l mX3_bestOff 0 q_tI [.ref 37] w (fX3_bestOff w) := by
  refine q_intro (lv := [(0, .ref 37)]) (by decide +kernel) rfl (Nat.le_of_ble_eq_true rfl) rfl ?_
  refine q_aload_n 0 eX3_bestOff_0 rfl rfl ?_
  refine q_getI eX3_bestOff_1 fl_3_49 tC_37 rfl ?_
  exact q_ireturn eX3_bestOff_4 rfl
def fX3_foundLength (w : q_W) : Option (Int32 × q_W) :=
  some ((w.1 37 9), w)
set_option maxHeartbeats 4000000 in
set_option maxRecDepth 100000 in
theorem kX3_foundLength (X : q_X) (l : Launch) (w : q_W) : q_Ct X S_C l mX3_foundLength 0 q_tI [.ref 37] w (fX3_foundLength w) := by
  refine q_intro (lv := [(0, .ref 37)]) (by decide +kernel) rfl (Nat.le_of_ble_eq_true rfl) rfl ?_
  refine q_aload_n 0 eX3_foundLength_0 rfl rfl ?_
  refine q_getI eX3_foundLength_1 fl_3_52 tC_37 rfl ?_
  exact q_ireturn eX3_foundLength_4 rfl
def fX3_foundAt (a1 : Int32) (w : q_W) : Option (Int32 × q_W) :=
  if a1 < 0 then
    some ((-1), w)
  else
    if 3 ≤ a1 then
      some ((-1), w)
    else
      if q_inb a1 3 then
      some ((w.1 42 (q_ix a1)), w)
      else none
set_option maxHeartbeats 4000000 in
set_option maxRecDepth 100000 in
theorem kX3_foundAt (X : q_X) (l : Launch) (a1 : Int32) (w : q_W) : q_Ct X S_C l mX3_foundAt 0 q_tI [.ref 37, .int a1] w (fX3_foundAt a1 w) := by
  refine q_intro (lv := [(0, .ref 37), (1, .int a1)]) (by decide +kernel) rfl (Nat.le_of_ble_eq_true rfl) rfl ?_
  refine q_iload_n 1 eX3_foundAt_0 rfl rfl ?_
  refine q_if_lt (tgt := 18) eX3_foundAt_1 (by decide) (fun _ => ?_) (fun _ => ?_)
  · refine q_iconst eX3_foundAt_18 kiconst_m1 ?_
    exact q_ireturn eX3_foundAt_19 rfl
  · refine q_iload_n 1 eX3_foundAt_4 rfl rfl ?_
    refine q_iconst eX3_foundAt_5 kiconst_3 ?_
    refine q_icmp_ge (tgt := 18) eX3_foundAt_6 (by decide) (fun _ => ?_) (fun _ => ?_)
    · refine q_iconst eX3_foundAt_18 kiconst_m1 ?_
      exact q_ireturn eX3_foundAt_19 rfl
    · refine q_aload_n 0 eX3_foundAt_9 rfl rfl ?_
      refine q_getG (v := 42) eX3_foundAt_10 fl_3_26 tC_37 rfl gC_37_8 ?_
      refine q_iload_n 1 eX3_foundAt_13 rfl rfl ?_
      refine q_iald eX3_foundAt_14 tC_42 nC_42 ?_
      refine q_goto (tgt := 19) eX3_foundAt_15 (by decide) ?_
      exact q_ireturn eX3_foundAt_19 rfl
def fX3_pickAll_h2 (rec2 : Int32 → Int32 → Int32 → q_W → Option (Unit × q_W)) (x1 : Int32) (x2 : Int32) (x3 : Int32) (w : q_W) : Option (Unit × q_W) :=
  if x2 ≤ x3 then
    some ((), w)
  else
    q_b (fX0_pick (x1 + x3) w) fun r1 w2 =>
    q_lt (x3 + 1) fun y3 =>
    rec2 x1 x2 y3 w2
def fX3_pickAll_l2 : Int32 → Int32 → Int32 → q_W → Option (Unit × q_W) := q_it q_N (fX3_pickAll_h2) (fun _ _ _ _ => none)
set_option maxHeartbeats 4000000 in
set_option maxRecDepth 100000 in
theorem jX3_pickAll_h2 (X : q_X) (l : Launch) (rec2 : Int32 → Int32 → Int32 → q_W → Option (Unit × q_W)) (hr2 : ∀ x1 x2 x3 w, q_J X S_C l mX3_pickAll 1 q_tV 2 [(0, .ref 37), (1, .int x1), (2, .int x2), (3, .int x3)] [] w (rec2 x1 x2 x3 w)) : ∀ x1 x2 x3 w, q_J X S_C l mX3_pickAll 1 q_tV 2 [(0, .ref 37), (1, .int x1), (2, .int x2), (3, .int x3)] [] w (fX3_pickAll_h2 rec2 x1 x2 x3 w) := by
  intro x1 x2 x3 w
  refine q_iload_n 3 eX3_pickAll_2 rfl rfl ?_
  refine q_iload_n 2 eX3_pickAll_3 rfl rfl ?_
  refine q_icmp_ge (tgt := 23) eX3_pickAll_4 (by decide) (fun _ => ?_) (fun _ => ?_)
  · exact q_return eX3_pickAll_23 rfl
  · refine q_aload_n 0 eX3_pickAll_7 rfl rfl ?_
    refine q_getG (v := 12) eX3_pickAll_8 fl_3_37 tC_37 rfl gC_37_2 ?_
    refine q_iload_n 1 eX3_pickAll_11 rfl rfl ?_
    refine q_iload_n 3 eX3_pickAll_12 rfl rfl ?_
    refine q_iadd eX3_pickAll_13 ?_
    refine q_callVV (As := [.int (x1 + x3)]) (st := []) eX3_pickAll_14 cv_3_95 (kX0_pick X l (x1 + x3) w) tC_12 rfl (by decide) rfl rfl (Nat.le_of_ble_eq_true rfl) (by decide) (fun r1 w2 => ?_)
    refine q_ltE (fun y3 hy3 => ?_)
    refine q_iinc (v := y3) (lv' := [(3, .int y3), (0, .ref 37), (1, .int x1), (2, .int x2)]) 3 eX3_pickAll_17 rfl hy3 (by decide) rfl ?_
    refine q_goto (tgt := 2) eX3_pickAll_20 (by decide) ?_
    exact q_sub [1, 2, 3, 0] rfl (hr2 x1 x2 y3 w2)
set_option maxHeartbeats 4000000 in
set_option maxRecDepth 100000 in
theorem jX3_pickAll_l2 (X : q_X) (l : Launch) : ∀ x1 x2 x3 w, q_J X S_C l mX3_pickAll 1 q_tV 2 [(0, .ref 37), (1, .int x1), (2, .int x2), (3, .int x3)] [] w (fX3_pickAll_l2 x1 x2 x3 w) := by
  exact q_it_ind (fun rc => ∀ x1 x2 x3 w, q_J X S_C l mX3_pickAll 1 q_tV 2 [(0, .ref 37), (1, .int x1), (2, .int x2), (3, .int x3)] [] w (rc x1 x2 x3 w)) _ _ (fun _ _ _ _ => q_none) (fun rc hrc => jX3_pickAll_h2 X l rc hrc) q_N
def fX3_pickAll (a1 : Int32) (a2 : Int32) (w : q_W) : Option (Unit × q_W) :=
  fX3_pickAll_l2 a1 a2 0 w
set_option maxHeartbeats 4000000 in
set_option maxRecDepth 100000 in
theorem kX3_pickAll (X : q_X) (l : Launch) (a1 : Int32) (a2 : Int32) (w : q_W) : q_Ct X S_C l mX3_pickAll 1 q_tV [.ref 37, .int a1, .int a2] w (fX3_pickAll a1 a2 w) := by
  refine q_intro (lv := [(0, .ref 37), (1, .int a1), (2, .int a2)]) (by decide +kernel) rfl (Nat.le_of_ble_eq_true rfl) rfl ?_
  refine q_iconst eX3_pickAll_0 kiconst_0 ?_
  refine q_istore_n (lv' := [(3, .int 0), (0, .ref 37), (1, .int a1), (2, .int a2)]) eX3_pickAll_1 rfl (by decide) rfl ?_
  exact q_sub [1, 2, 3, 0] rfl (jX3_pickAll_l2 X l a1 a2 0 w)
def fX8_pointX (q0 : Nat) (a1 : Int32) (w : q_W) : Option (Int32 × q_W) :=
  if cC q0 = 8 then
  some (((64 * (a1 / 16)) + 32), w)
  else none
set_option maxHeartbeats 4000000 in
set_option maxRecDepth 100000 in
theorem kX8_pointX (X : q_X) (l : Launch) (q0 : Nat) (a1 : Int32) (w : q_W) : q_Ct X S_C l mX8_pointX 0 q_tI [.ref q0, .int a1] w (fX8_pointX q0 a1 w) := by
  refine q_intro (lv := [(0, .ref q0), (1, .int a1)]) (by decide +kernel) rfl (Nat.le_of_ble_eq_true rfl) rfl ?_
  refine q_ck (fun h0 => ?_)
  refine q_bipush eX8_pointX_0 kbipush_64 ?_
  refine q_iload_n 1 eX8_pointX_2 rfl rfl ?_
  refine q_bipush eX8_pointX_3 kbipush_16 ?_
  refine q_idivc eX8_pointX_5 (by decide) ?_
  refine q_imul eX8_pointX_6 ?_
  refine q_bipush eX8_pointX_7 kbipush_32 ?_
  refine q_iadd eX8_pointX_9 ?_
  exact q_ireturn eX8_pointX_10 rfl
def fX8_pointY (q0 : Nat) (a1 : Int32) (w : q_W) : Option (Int32 × q_W) :=
  if cC q0 = 8 then
  q_lt (a1 / 16) fun y1 =>
  if (y1 - y1 / 2 * 2) = 0 then
    some ((((64 * (a1 - a1 / 16 * 16)) + 32) + 0), w)
  else
    some ((((64 * (a1 - a1 / 16 * 16)) + 32) + (w.1 q0 6)), w)
  else none
set_option maxHeartbeats 4000000 in
set_option maxRecDepth 100000 in
theorem kX8_pointY (X : q_X) (l : Launch) (q0 : Nat) (a1 : Int32) (w : q_W) : q_Ct X S_C l mX8_pointY 0 q_tI [.ref q0, .int a1] w (fX8_pointY q0 a1 w) := by
  refine q_intro (lv := [(0, .ref q0), (1, .int a1)]) (by decide +kernel) rfl (Nat.le_of_ble_eq_true rfl) rfl ?_
  refine q_ck (fun h0 => ?_)
  refine q_bipush eX8_pointY_0 kbipush_64 ?_
  refine q_iload_n 1 eX8_pointY_2 rfl rfl ?_
  refine q_bipush eX8_pointY_3 kbipush_16 ?_
  refine q_iremc eX8_pointY_5 (by decide) ?_
  refine q_imul eX8_pointY_6 ?_
  refine q_bipush eX8_pointY_7 kbipush_32 ?_
  refine q_iadd eX8_pointY_9 ?_
  refine q_iload_n 1 eX8_pointY_10 rfl rfl ?_
  refine q_bipush eX8_pointY_11 kbipush_16 ?_
  refine q_idivc eX8_pointY_13 (by decide) ?_
  refine q_iconst eX8_pointY_14 kiconst_2 ?_
  refine q_ltI1 (fun y1 => ?_)
  refine q_iremc eX8_pointY_15 (by decide) ?_
  refine q_if_ne (tgt := 23) eX8_pointY_16 (by decide) (fun _ => ?_) (fun _ => ?_)
  · refine q_iconst eX8_pointY_19 kiconst_0 ?_
    refine q_goto (tgt := 27) eX8_pointY_20 (by decide) ?_
    refine q_iadd eX8_pointY_27 ?_
    exact q_ireturn eX8_pointY_28 rfl
  · refine q_aload_n 0 eX8_pointY_23 rfl rfl ?_
    refine q_getI eX8_pointY_24 fl_8_29 h0 rfl ?_
    refine q_iadd eX8_pointY_27 ?_
    exact q_ireturn eX8_pointY_28 rfl
def fX8_unlikeUpTo_n47 (q0 : Nat) (rec5 : Int32 → Int32 → Int32 → q_W → Option (Int32 × q_W)) (x1 : Int32) (x3 : Int32) (x4 : Int32) (w : q_W) : Option (Int32 × q_W) :=
  q_lt (x4 + 1) fun y1 =>
  rec5 x1 x3 y1 w
set_option maxHeartbeats 4000000 in
set_option maxRecDepth 100000 in
theorem jX8_unlikeUpTo_n47 (X : q_X) (l : Launch) (q0 : Nat) (h0 : cC q0 = 8) (rec5 : Int32 → Int32 → Int32 → q_W → Option (Int32 × q_W)) (hr5 : ∀ x1 x3 x4 w, q_J X S_C l mX8_unlikeUpTo 4 q_tI 5 [(0, .ref q0), (1, .int x1), (2, .ref 12), (3, .int x3), (4, .int x4)] [] w (rec5 x1 x3 x4 w)) (x1 : Int32) (x3 : Int32) (x4 : Int32) (w : q_W) : q_J X S_C l mX8_unlikeUpTo 4 q_tI 47 [(0, .ref q0), (1, .int x1), (2, .ref 12), (3, .int x3), (4, .int x4)] [] w (fX8_unlikeUpTo_n47 q0 rec5 x1 x3 x4 w) := by
  refine q_ltE (fun y1 hy1 => ?_)
  refine q_iinc (v := y1) (lv' := [(4, .int y1), (0, .ref q0), (1, .int x1), (2, .ref 12), (3, .int x3)]) 4 eX8_unlikeUpTo_47 rfl hy1 (by decide) rfl ?_
  refine q_goto (tgt := 5) eX8_unlikeUpTo_50 (by decide) ?_
  exact q_sub [1, 2, 3, 4, 0] rfl (hr5 x1 x3 y1 w)
def fX8_unlikeUpTo_h5 (q0 : Nat) (rec5 : Int32 → Int32 → Int32 → q_W → Option (Int32 × q_W)) (x1 : Int32) (x3 : Int32) (x4 : Int32) (w : q_W) : Option (Int32 × q_W) :=
  if 256 ≤ x4 then
    some (x3, w)
  else
    if x1 ≤ x3 then
      some (x3, w)
    else
      q_b (fX8_pointX q0 x4 w) fun r1 w2 =>
      q_b (fX8_pointY q0 x4 w2) fun r3 w4 =>
      q_b (fX0_colourOf r1 r3 w4) fun r5 w6 =>
      if q_inb x4 256 then
      if r5 = (w6.1 (fC q0 0) (q_ix x4)) then
        fX8_unlikeUpTo_n47 q0 rec5 x1 x3 x4 w6
      else
        q_lt (x3 + 1) fun y7 =>
        fX8_unlikeUpTo_n47 q0 rec5 x1 y7 x4 w6
      else none
def fX8_unlikeUpTo_l5 (q0 : Nat) : Int32 → Int32 → Int32 → q_W → Option (Int32 × q_W) := q_it q_N (fX8_unlikeUpTo_h5 q0) (fun _ _ _ _ => none)
set_option maxHeartbeats 4000000 in
set_option maxRecDepth 100000 in
theorem jX8_unlikeUpTo_h5 (X : q_X) (l : Launch) (q0 : Nat) (h0 : cC q0 = 8) (rec5 : Int32 → Int32 → Int32 → q_W → Option (Int32 × q_W)) (hr5 : ∀ x1 x3 x4 w, q_J X S_C l mX8_unlikeUpTo 4 q_tI 5 [(0, .ref q0), (1, .int x1), (2, .ref 12), (3, .int x3), (4, .int x4)] [] w (rec5 x1 x3 x4 w)) : ∀ x1 x3 x4 w, q_J X S_C l mX8_unlikeUpTo 4 q_tI 5 [(0, .ref q0), (1, .int x1), (2, .ref 12), (3, .int x3), (4, .int x4)] [] w (fX8_unlikeUpTo_h5 q0 rec5 x1 x3 x4 w) := by
  intro x1 x3 x4 w
  refine q_iload 4 eX8_unlikeUpTo_5 rfl ?_
  refine q_sipush eX8_unlikeUpTo_7 ksipush_256 ?_
  refine q_icmp_ge (tgt := 53) eX8_unlikeUpTo_10 (by decide) (fun _ => ?_) (fun _ => ?_)
  · refine q_iload_n 3 eX8_unlikeUpTo_53 rfl rfl ?_
    exact q_ireturn eX8_unlikeUpTo_54 rfl
  · refine q_iload_n 3 eX8_unlikeUpTo_13 rfl rfl ?_
    refine q_iload_n 1 eX8_unlikeUpTo_14 rfl rfl ?_
    refine q_icmp_ge (tgt := 53) eX8_unlikeUpTo_15 (by decide) (fun _ => ?_) (fun _ => ?_)
    · refine q_iload_n 3 eX8_unlikeUpTo_53 rfl rfl ?_
      exact q_ireturn eX8_unlikeUpTo_54 rfl
    · refine q_aload_n 2 eX8_unlikeUpTo_18 rfl rfl ?_
      refine q_aload_n 0 eX8_unlikeUpTo_19 rfl rfl ?_
      refine q_iload 4 eX8_unlikeUpTo_20 rfl ?_
      refine q_callVI (As := [.int x4]) (st := [.ref 12]) eX8_unlikeUpTo_22 cv_8_32 (kX8_pointX X l q0 x4 w) h0 rfl (by decide) rfl rfl (Nat.le_of_ble_eq_true rfl) (by decide) (fun r1 w2 => ?_)
      refine q_aload_n 0 eX8_unlikeUpTo_25 rfl rfl ?_
      refine q_iload 4 eX8_unlikeUpTo_26 rfl ?_
      refine q_callVI (As := [.int x4]) (st := [.int r1, .ref 12]) eX8_unlikeUpTo_28 cv_8_36 (kX8_pointY X l q0 x4 w2) h0 rfl (by decide) rfl rfl (Nat.le_of_ble_eq_true rfl) (by decide) (fun r3 w4 => ?_)
      refine q_callVI (As := [.int r1, .int r3]) (st := []) eX8_unlikeUpTo_31 cv_8_39 (kX0_colourOf X l r1 r3 w4) tC_12 rfl (by decide) rfl rfl (Nat.le_of_ble_eq_true rfl) (by decide) (fun r5 w6 => ?_)
      refine q_aload_n 0 eX8_unlikeUpTo_34 rfl rfl ?_
      refine q_getG (v := (fC q0 0)) eX8_unlikeUpTo_35 fl_8_11 h0 rfl rfl ?_
      refine q_iload 4 eX8_unlikeUpTo_38 rfl ?_
      refine q_iald eX8_unlikeUpTo_40 (fxC_8_0 q0 h0) (flC_8_0 q0 h0) ?_
      refine q_icmp_eq (tgt := 47) eX8_unlikeUpTo_41 (by decide) (fun _ => ?_) (fun _ => ?_)
      · exact q_sub [0, 1, 2, 3, 4] rfl (jX8_unlikeUpTo_n47 X l q0 h0 rec5 hr5 x1 x3 x4 w6)
      · refine q_ltE (fun y7 hy7 => ?_)
        refine q_iinc (v := y7) (lv' := [(3, .int y7), (0, .ref q0), (1, .int x1), (2, .ref 12), (4, .int x4)]) 3 eX8_unlikeUpTo_44 rfl hy7 (by decide) rfl ?_
        exact q_sub [1, 2, 3, 0, 4] rfl (jX8_unlikeUpTo_n47 X l q0 h0 rec5 hr5 x1 y7 x4 w6)
set_option maxHeartbeats 4000000 in
set_option maxRecDepth 100000 in
theorem jX8_unlikeUpTo_l5 (X : q_X) (l : Launch) (q0 : Nat) (h0 : cC q0 = 8) : ∀ x1 x3 x4 w, q_J X S_C l mX8_unlikeUpTo 4 q_tI 5 [(0, .ref q0), (1, .int x1), (2, .ref 12), (3, .int x3), (4, .int x4)] [] w (fX8_unlikeUpTo_l5 q0 x1 x3 x4 w) := by
  exact q_it_ind (fun rc => ∀ x1 x3 x4 w, q_J X S_C l mX8_unlikeUpTo 4 q_tI 5 [(0, .ref q0), (1, .int x1), (2, .ref 12), (3, .int x3), (4, .int x4)] [] w (rc x1 x3 x4 w)) _ _ (fun _ _ _ _ => q_none) (fun rc hrc => jX8_unlikeUpTo_h5 X l q0 h0 rc hrc) q_N
def fX8_unlikeUpTo (q0 : Nat) (a1 : Int32) (w : q_W) : Option (Int32 × q_W) :=
  if cC q0 = 8 then
  fX8_unlikeUpTo_l5 q0 a1 0 0 w
  else none
set_option maxHeartbeats 4000000 in
set_option maxRecDepth 100000 in
theorem kX8_unlikeUpTo (X : q_X) (l : Launch) (q0 : Nat) (a1 : Int32) (w : q_W) : q_Ct X S_C l mX8_unlikeUpTo 4 q_tI [.ref q0, .int a1, .ref 12] w (fX8_unlikeUpTo q0 a1 w) := by
  refine q_intro (lv := [(0, .ref q0), (1, .int a1), (2, .ref 12)]) (by decide +kernel) rfl (Nat.le_of_ble_eq_true rfl) rfl ?_
  refine q_ck (fun h0 => ?_)
  refine q_iconst eX8_unlikeUpTo_0 kiconst_0 ?_
  refine q_istore_n (lv' := [(3, .int 0), (0, .ref q0), (1, .int a1), (2, .ref 12)]) eX8_unlikeUpTo_1 rfl (by decide) rfl ?_
  refine q_iconst eX8_unlikeUpTo_2 kiconst_0 ?_
  refine q_istore (lv' := [(4, .int 0), (3, .int 0), (0, .ref q0), (1, .int a1), (2, .ref 12)]) eX8_unlikeUpTo_3 (by decide) rfl ?_
  exact q_sub [2, 3, 4, 1, 0] rfl (jX8_unlikeUpTo_l5 X l q0 h0 a1 0 0 w)
def fX3_compare (a1 : Int32) (a2 : Int32) (w : q_W) : Option (Unit × q_W) :=
  q_b (fX0_begin 9 a2 w) fun r1 w2 =>
  q_b (fX6_size 9 w2) fun r3 w4 =>
  q_b (fX3_pickAll 0 r3 w4) fun r5 w6 =>
  q_b (fX8_unlikeUpTo 14 (w6.1 37 11) w6) fun r7 w8 =>
  if (w8.1 37 11) ≤ r7 then
    some ((), w8)
  else
    q_lt (q_sI w8 37 11 r7) fun w9 =>
    q_lt (q_sI w9 37 10 a1) fun w10 =>
    some ((), w10)
set_option maxHeartbeats 4000000 in
set_option maxRecDepth 100000 in
theorem kX3_compare (X : q_X) (l : Launch) (a1 : Int32) (a2 : Int32) (w : q_W) : q_Ct X S_C l mX3_compare 5 q_tV [.ref 37, .int a1, .int a2] w (fX3_compare a1 a2 w) := by
  refine q_intro (lv := [(0, .ref 37), (1, .int a1), (2, .int a2)]) (by decide +kernel) rfl (Nat.le_of_ble_eq_true rfl) rfl ?_
  refine q_aload_n 0 eX3_compare_0 rfl rfl ?_
  refine q_getG (v := 12) eX3_compare_1 fl_3_37 tC_37 rfl gC_37_2 ?_
  refine q_aload_n 0 eX3_compare_4 rfl rfl ?_
  refine q_getG (v := 9) eX3_compare_5 fl_3_33 tC_37 rfl gC_37_1 ?_
  refine q_iload_n 2 eX3_compare_8 rfl rfl ?_
  refine q_callVV (As := [.ref 9, .int a2]) (st := []) eX3_compare_9 cv_3_81 (kX0_begin X l 9 a2 w) tC_12 rfl (by decide) rfl rfl (Nat.le_of_ble_eq_true rfl) (by decide) (fun r1 w2 => ?_)
  refine q_aload_n 0 eX3_compare_12 rfl rfl ?_
  refine q_iconst eX3_compare_13 kiconst_0 ?_
  refine q_aload_n 0 eX3_compare_14 rfl rfl ?_
  refine q_getG (v := 9) eX3_compare_15 fl_3_33 tC_37 rfl gC_37_1 ?_
  refine q_callVI (As := []) (st := [.int 0, .ref 37]) eX3_compare_18 cv_3_87 (kX6_size X l 9 w2) tC_9 rfl (by decide) rfl rfl (Nat.le_of_ble_eq_true rfl) (by decide) (fun r3 w4 => ?_)
  refine q_callVV (As := [.int 0, .int r3]) (st := []) eX3_compare_21 cv_3_88 (kX3_pickAll X l 0 r3 w4) tC_37 rfl (by decide) rfl rfl (Nat.le_of_ble_eq_true rfl) (by decide) (fun r5 w6 => ?_)
  refine q_aload_n 0 eX3_compare_24 rfl rfl ?_
  refine q_getG (v := 14) eX3_compare_25 fl_3_41 tC_37 rfl gC_37_3 ?_
  refine q_aload_n 0 eX3_compare_28 rfl rfl ?_
  refine q_getI eX3_compare_29 fl_3_49 tC_37 rfl ?_
  refine q_aload_n 0 eX3_compare_32 rfl rfl ?_
  refine q_getG (v := 12) eX3_compare_33 fl_3_37 tC_37 rfl gC_37_2 ?_
  refine q_callVI (As := [.int (w6.1 37 11), .ref 12]) (st := []) eX3_compare_36 cv_3_91 (kX8_unlikeUpTo X l 14 (w6.1 37 11) w6) tC_14 rfl (by decide) rfl rfl (Nat.le_of_ble_eq_true rfl) (by decide) (fun r7 w8 => ?_)
  refine q_istore_n (lv' := [(3, .int r7), (0, .ref 37), (1, .int a1), (2, .int a2)]) eX3_compare_39 rfl (by decide) rfl ?_
  refine q_iload_n 0 eX3_compare_40 rfl rfl ?_
  refine q_aload_n 1 eX3_compare_41 rfl rfl ?_
  refine q_getI eX3_compare_42 fl_3_49 tC_37 rfl ?_
  refine q_icmp_ge (tgt := 58) eX3_compare_45 (by decide) (fun _ => ?_) (fun _ => ?_)
  · exact q_return eX3_compare_58 rfl
  · refine q_aload_n 1 eX3_compare_48 rfl rfl ?_
    refine q_iload_n 0 eX3_compare_49 rfl rfl ?_
    refine q_putI eX3_compare_50 fp_3_49 tC_37 rfl ⟨rfl, rfl⟩ ?_
    refine q_ltW (fun w9 => ?_)
    refine q_aload_n 1 eX3_compare_53 rfl rfl ?_
    refine q_iload_n 2 eX3_compare_54 rfl rfl ?_
    refine q_putI eX3_compare_55 fp_3_45 tC_37 rfl ⟨rfl, rfl⟩ ?_
    refine q_ltW (fun w10 => ?_)
    exact q_return eX3_compare_58 rfl
def fX4_size (q0 : Nat) (w : q_W) : Option (Int32 × q_W) :=
  if cC q0 = 4 then
  some ((w.1 q0 4), w)
  else none
set_option maxHeartbeats 4000000 in
set_option maxRecDepth 100000 in
theorem kX4_size (X : q_X) (l : Launch) (q0 : Nat) (w : q_W) : q_Ct X S_C l mX4_size 0 q_tI [.ref q0] w (fX4_size q0 w) := by
  refine q_intro (lv := [(0, .ref q0)]) (by decide +kernel) rfl (Nat.le_of_ble_eq_true rfl) rfl ?_
  refine q_ck (fun h0 => ?_)
  refine q_aload_n 0 eX4_size_0 rfl rfl ?_
  refine q_getI eX4_size_1 fl_4_23 h0 rfl ?_
  exact q_ireturn eX4_size_4 rfl
def fX6_allow (q0 : Nat) (a1 : Int32) (w : q_W) : Option (Unit × q_W) :=
  if cC q0 = 6 then
  q_lt (q_sI w q0 3 (q_imin ((w.1 q0 2) + (q_imax a1 0)) 480)) fun w1 =>
  some ((), w1)
  else none
set_option maxHeartbeats 4000000 in
set_option maxRecDepth 100000 in
theorem kX6_allow (X : q_X) (l : Launch) (q0 : Nat) (a1 : Int32) (w : q_W) : q_Ct X S_C l mX6_allow 1 q_tV [.ref q0, .int a1] w (fX6_allow q0 a1 w) := by
  refine q_intro (lv := [(0, .ref q0), (1, .int a1)]) (by decide +kernel) rfl (Nat.le_of_ble_eq_true rfl) rfl ?_
  refine q_ck (fun h0 => ?_)
  refine q_aload_n 0 eX6_allow_0 rfl rfl ?_
  refine q_aload_n 0 eX6_allow_1 rfl rfl ?_
  refine q_getI eX6_allow_2 fl_6_22 h0 rfl ?_
  refine q_iload_n 1 eX6_allow_5 rfl rfl ?_
  refine q_iconst eX6_allow_6 kiconst_0 ?_
  refine q_mmax eX6_allow_7 cv_6_29 (Nat.le_of_ble_eq_true rfl) (by decide) ?_
  refine q_iadd eX6_allow_10 ?_
  refine q_sipush eX6_allow_11 ksipush_480 ?_
  refine q_mmin eX6_allow_14 cv_6_35 (Nat.le_of_ble_eq_true rfl) (by decide) ?_
  refine q_putI eX6_allow_17 fp_6_18 h0 rfl ⟨rfl, rfl⟩ ?_
  refine q_ltW (fun w1 => ?_)
  exact q_return eX6_allow_20 rfl
def fX6_clear (q0 : Nat) (a1 : Int32) (w : q_W) : Option (Unit × q_W) :=
  if cC q0 = 6 then
  q_lt (q_sI w q0 2 0) fun w1 =>
  q_b (fX6_allow q0 a1 w1) fun r2 w3 =>
  some ((), w3)
  else none
set_option maxHeartbeats 4000000 in
set_option maxRecDepth 100000 in
theorem kX6_clear (X : q_X) (l : Launch) (q0 : Nat) (a1 : Int32) (w : q_W) : q_Ct X S_C l mX6_clear 2 q_tV [.ref q0, .int a1] w (fX6_clear q0 a1 w) := by
  refine q_intro (lv := [(0, .ref q0), (1, .int a1)]) (by decide +kernel) rfl (Nat.le_of_ble_eq_true rfl) rfl ?_
  refine q_ck (fun h0 => ?_)
  refine q_aload_n 0 eX6_clear_0 rfl rfl ?_
  refine q_iconst eX6_clear_1 kiconst_0 ?_
  refine q_putI eX6_clear_2 fp_6_22 h0 rfl ⟨rfl, rfl⟩ ?_
  refine q_ltW (fun w1 => ?_)
  refine q_aload_n 0 eX6_clear_5 rfl rfl ?_
  refine q_iload_n 1 eX6_clear_6 rfl rfl ?_
  refine q_callVV (As := [.int a1]) (st := []) eX6_clear_7 cv_6_25 (kX6_allow X l q0 a1 w1) h0 rfl (by decide) rfl rfl (Nat.le_of_ble_eq_true rfl) (by decide) (fun r2 w3 => ?_)
  exact q_return eX6_clear_10 rfl
def fX3_seekBest_n119 (q1 : Nat) (rec14 : Int32 → Int32 → q_W → Option (Int32 × q_W)) (rec56 : Int32 → Int32 → Int32 → Int32 → Int32 → q_W → Option (Int32 × q_W)) (rec66 : Int32 → Int32 → Int32 → Int32 → Int32 → Int32 → q_W → Option (Int32 × q_W)) (x2 : Int32) (x3 : Int32) (x4 : Int32) (x5 : Int32) (x6 : Int32) (x7 : Int32) (w : q_W) : Option (Int32 × q_W) :=
  q_lt (x7 + 1) fun y1 =>
  rec66 x2 x3 x4 x5 x6 y1 w
set_option maxHeartbeats 4000000 in
set_option maxRecDepth 100000 in
theorem jX3_seekBest_n119 (X : q_X) (l : Launch) (q1 : Nat) (h1 : cC q1 = 4) (rec14 : Int32 → Int32 → q_W → Option (Int32 × q_W)) (rec56 : Int32 → Int32 → Int32 → Int32 → Int32 → q_W → Option (Int32 × q_W)) (rec66 : Int32 → Int32 → Int32 → Int32 → Int32 → Int32 → q_W → Option (Int32 × q_W)) (hr14 : ∀ x2 x3 w, q_J X S_C l mX3_seekBest 6 q_tI 14 [(0, .ref 37), (1, .ref q1), (2, .int x2), (3, .int x3)] [] w (rec14 x2 x3 w)) (hr56 : ∀ x2 x3 x4 x5 x6 w, q_J X S_C l mX3_seekBest 6 q_tI 56 [(0, .ref 37), (1, .ref q1), (2, .int x2), (3, .int x3), (4, .int x4), (5, .int x5), (6, .int x6)] [] w (rec56 x2 x3 x4 x5 x6 w)) (hr66 : ∀ x2 x3 x4 x5 x6 x7 w, q_J X S_C l mX3_seekBest 6 q_tI 66 [(0, .ref 37), (1, .ref q1), (2, .int x2), (3, .int x3), (4, .int x4), (5, .int x5), (6, .int x6), (7, .int x7)] [] w (rec66 x2 x3 x4 x5 x6 x7 w)) (x2 : Int32) (x3 : Int32) (x4 : Int32) (x5 : Int32) (x6 : Int32) (x7 : Int32) (w : q_W) : q_J X S_C l mX3_seekBest 6 q_tI 119 [(0, .ref 37), (1, .ref q1), (2, .int x2), (3, .int x3), (4, .int x4), (5, .int x5), (6, .int x6), (7, .int x7)] [] w (fX3_seekBest_n119 q1 rec14 rec56 rec66 x2 x3 x4 x5 x6 x7 w) := by
  refine q_ltE (fun y1 hy1 => ?_)
  refine q_iinc (v := y1) (lv' := [(7, .int y1), (0, .ref 37), (1, .ref q1), (2, .int x2), (3, .int x3), (4, .int x4), (5, .int x5), (6, .int x6)]) 7 eX3_seekBest_119 rfl hy1 (by decide) rfl ?_
  refine q_goto (tgt := 66) eX3_seekBest_122 (by decide) ?_
  exact q_sub [1, 2, 3, 4, 5, 6, 7, 0] rfl (hr66 x2 x3 x4 x5 x6 y1 w)
def fX3_seekBest_h66 (q1 : Nat) (rec14 : Int32 → Int32 → q_W → Option (Int32 × q_W)) (rec56 : Int32 → Int32 → Int32 → Int32 → Int32 → q_W → Option (Int32 × q_W)) (rec66 : Int32 → Int32 → Int32 → Int32 → Int32 → Int32 → q_W → Option (Int32 × q_W)) (x2 : Int32) (x3 : Int32) (x4 : Int32) (x5 : Int32) (x6 : Int32) (x7 : Int32) (w : q_W) : Option (Int32 × q_W) :=
  if x5 < x7 then
    q_lt (x6 + 1) fun y1 =>
    rec56 x2 x3 x4 x5 y1 w
  else
    q_b (fX6_clear 9 60 w) fun r2 w3 =>
    q_b (fX1_perform q1 x3 x6 x7 9 w3) fun r4 w5 =>
    if r4 = 0 then
      q_b (fX3_compare (((16 * x3) + (4 * x6)) + x7) x2 w5) fun r6 w7 =>
      fX3_seekBest_n119 q1 rec14 rec56 rec66 x2 x3 x4 x5 x6 x7 w7
    else
      fX3_seekBest_n119 q1 rec14 rec56 rec66 x2 x3 x4 x5 x6 x7 w5
def fX3_seekBest_l66 (q1 : Nat) (rec14 : Int32 → Int32 → q_W → Option (Int32 × q_W)) (rec56 : Int32 → Int32 → Int32 → Int32 → Int32 → q_W → Option (Int32 × q_W)) : Int32 → Int32 → Int32 → Int32 → Int32 → Int32 → q_W → Option (Int32 × q_W) := q_it q_N (fX3_seekBest_h66 q1 rec14 rec56) (fun _ _ _ _ _ _ _ => none)
set_option maxHeartbeats 4000000 in
set_option maxRecDepth 100000 in
theorem jX3_seekBest_h66 (X : q_X) (l : Launch) (q1 : Nat) (h1 : cC q1 = 4) (rec14 : Int32 → Int32 → q_W → Option (Int32 × q_W)) (rec56 : Int32 → Int32 → Int32 → Int32 → Int32 → q_W → Option (Int32 × q_W)) (hr14 : ∀ x2 x3 w, q_J X S_C l mX3_seekBest 6 q_tI 14 [(0, .ref 37), (1, .ref q1), (2, .int x2), (3, .int x3)] [] w (rec14 x2 x3 w)) (hr56 : ∀ x2 x3 x4 x5 x6 w, q_J X S_C l mX3_seekBest 6 q_tI 56 [(0, .ref 37), (1, .ref q1), (2, .int x2), (3, .int x3), (4, .int x4), (5, .int x5), (6, .int x6)] [] w (rec56 x2 x3 x4 x5 x6 w)) (rec66 : Int32 → Int32 → Int32 → Int32 → Int32 → Int32 → q_W → Option (Int32 × q_W)) (hr66 : ∀ x2 x3 x4 x5 x6 x7 w, q_J X S_C l mX3_seekBest 6 q_tI 66 [(0, .ref 37), (1, .ref q1), (2, .int x2), (3, .int x3), (4, .int x4), (5, .int x5), (6, .int x6), (7, .int x7)] [] w (rec66 x2 x3 x4 x5 x6 x7 w)) : ∀ x2 x3 x4 x5 x6 x7 w, q_J X S_C l mX3_seekBest 6 q_tI 66 [(0, .ref 37), (1, .ref q1), (2, .int x2), (3, .int x3), (4, .int x4), (5, .int x5), (6, .int x6), (7, .int x7)] [] w (fX3_seekBest_h66 q1 rec14 rec56 rec66 x2 x3 x4 x5 x6 x7 w) := by
  intro x2 x3 x4 x5 x6 x7 w
  refine q_iload 7 eX3_seekBest_66 rfl ?_
  refine q_iload 5 eX3_seekBest_68 rfl ?_
  refine q_icmp_gt (tgt := 125) eX3_seekBest_70 (by decide) (fun _ => ?_) (fun _ => ?_)
  · refine q_ltE (fun y1 hy1 => ?_)
    refine q_iinc (v := y1) (lv' := [(6, .int y1), (0, .ref 37), (1, .ref q1), (2, .int x2), (3, .int x3), (4, .int x4), (5, .int x5), (7, .int x7)]) 6 eX3_seekBest_125 rfl hy1 (by decide) rfl ?_
    refine q_goto (tgt := 56) eX3_seekBest_128 (by decide) ?_
    exact q_sub [1, 2, 3, 4, 5, 6, 0] rfl (hr56 x2 x3 x4 x5 y1 w)
  · refine q_aload_n 0 eX3_seekBest_73 rfl rfl ?_
    refine q_getG (v := 9) eX3_seekBest_74 fl_3_33 tC_37 rfl gC_37_1 ?_
    refine q_bipush eX3_seekBest_77 kbipush_60 ?_
    refine q_callVV (As := [.int 60]) (st := []) eX3_seekBest_79 cv_3_65 (kX6_clear X l 9 60 w) tC_9 rfl (by decide) rfl rfl (Nat.le_of_ble_eq_true rfl) (by decide) (fun r2 w3 => ?_)
    refine q_aload_n 0 eX3_seekBest_82 rfl rfl ?_
    refine q_getG (v := 31) eX3_seekBest_83 fl_3_29 tC_37 rfl gC_37_0 ?_
    refine q_aload_n 1 eX3_seekBest_86 rfl rfl ?_
    refine q_iload_n 3 eX3_seekBest_87 rfl rfl ?_
    refine q_iload 6 eX3_seekBest_88 rfl ?_
    refine q_iload 7 eX3_seekBest_90 rfl ?_
    refine q_aload_n 0 eX3_seekBest_92 rfl rfl ?_
    refine q_getG (v := 9) eX3_seekBest_93 fl_3_33 tC_37 rfl gC_37_1 ?_
    refine q_callVI (As := [.ref q1, .int x3, .int x6, .int x7, .ref 9]) (st := []) eX3_seekBest_96 cv_3_71 (kX1_perform X l q1 x3 x6 x7 9 w3) tC_31 rfl (by decide) rfl rfl (Nat.le_of_ble_eq_true rfl) (by decide) (fun r4 w5 => ?_)
    refine q_if_ne (tgt := 119) eX3_seekBest_99 (by decide) (fun _ => ?_) (fun _ => ?_)
    · refine q_aload_n 0 eX3_seekBest_102 rfl rfl ?_
      refine q_bipush eX3_seekBest_103 kbipush_16 ?_
      refine q_iload_n 3 eX3_seekBest_105 rfl rfl ?_
      refine q_imul eX3_seekBest_106 ?_
      refine q_iconst eX3_seekBest_107 kiconst_4 ?_
      refine q_iload 6 eX3_seekBest_108 rfl ?_
      refine q_imul eX3_seekBest_110 ?_
      refine q_iadd eX3_seekBest_111 ?_
      refine q_iload 7 eX3_seekBest_112 rfl ?_
      refine q_iadd eX3_seekBest_114 ?_
      refine q_iload_n 2 eX3_seekBest_115 rfl rfl ?_
      refine q_callVV (As := [.int (((16 * x3) + (4 * x6)) + x7), .int x2]) (st := []) eX3_seekBest_116 cv_3_77 (kX3_compare X l (((16 * x3) + (4 * x6)) + x7) x2 w5) tC_37 rfl (by decide) rfl rfl (Nat.le_of_ble_eq_true rfl) (by decide) (fun r6 w7 => ?_)
      exact q_sub [0, 1, 2, 3, 4, 5, 6, 7] rfl (jX3_seekBest_n119 X l q1 h1 rec14 rec56 rec66 hr14 hr56 hr66 x2 x3 x4 x5 x6 x7 w7)
    · exact q_sub [0, 1, 2, 3, 4, 5, 6, 7] rfl (jX3_seekBest_n119 X l q1 h1 rec14 rec56 rec66 hr14 hr56 hr66 x2 x3 x4 x5 x6 x7 w5)
set_option maxHeartbeats 4000000 in
set_option maxRecDepth 100000 in
theorem jX3_seekBest_l66 (X : q_X) (l : Launch) (q1 : Nat) (h1 : cC q1 = 4) (rec14 : Int32 → Int32 → q_W → Option (Int32 × q_W)) (rec56 : Int32 → Int32 → Int32 → Int32 → Int32 → q_W → Option (Int32 × q_W)) (hr14 : ∀ x2 x3 w, q_J X S_C l mX3_seekBest 6 q_tI 14 [(0, .ref 37), (1, .ref q1), (2, .int x2), (3, .int x3)] [] w (rec14 x2 x3 w)) (hr56 : ∀ x2 x3 x4 x5 x6 w, q_J X S_C l mX3_seekBest 6 q_tI 56 [(0, .ref 37), (1, .ref q1), (2, .int x2), (3, .int x3), (4, .int x4), (5, .int x5), (6, .int x6)] [] w (rec56 x2 x3 x4 x5 x6 w)) : ∀ x2 x3 x4 x5 x6 x7 w, q_J X S_C l mX3_seekBest 6 q_tI 66 [(0, .ref 37), (1, .ref q1), (2, .int x2), (3, .int x3), (4, .int x4), (5, .int x5), (6, .int x6), (7, .int x7)] [] w (fX3_seekBest_l66 q1 rec14 rec56 x2 x3 x4 x5 x6 x7 w) := by
  exact q_it_ind (fun rc => ∀ x2 x3 x4 x5 x6 x7 w, q_J X S_C l mX3_seekBest 6 q_tI 66 [(0, .ref 37), (1, .ref q1), (2, .int x2), (3, .int x3), (4, .int x4), (5, .int x5), (6, .int x6), (7, .int x7)] [] w (rc x2 x3 x4 x5 x6 x7 w)) _ _ (fun _ _ _ _ _ _ _ => q_none) (fun rc hrc => jX3_seekBest_h66 X l q1 h1 rec14 rec56 hr14 hr56 rc hrc) q_N
def fX3_seekBest_h56 (q1 : Nat) (rec14 : Int32 → Int32 → q_W → Option (Int32 × q_W)) (rec56 : Int32 → Int32 → Int32 → Int32 → Int32 → q_W → Option (Int32 × q_W)) (x2 : Int32) (x3 : Int32) (x4 : Int32) (x5 : Int32) (x6 : Int32) (w : q_W) : Option (Int32 × q_W) :=
  if x4 < x6 then
    q_lt (x3 + 1) fun y1 =>
    rec14 x2 y1 w
  else
    fX3_seekBest_l66 q1 rec14 rec56 x2 x3 x4 x5 x6 0 w
def fX3_seekBest_l56 (q1 : Nat) (rec14 : Int32 → Int32 → q_W → Option (Int32 × q_W)) : Int32 → Int32 → Int32 → Int32 → Int32 → q_W → Option (Int32 × q_W) := q_it q_N (fX3_seekBest_h56 q1 rec14) (fun _ _ _ _ _ _ => none)
set_option maxHeartbeats 4000000 in
set_option maxRecDepth 100000 in
theorem jX3_seekBest_h56 (X : q_X) (l : Launch) (q1 : Nat) (h1 : cC q1 = 4) (rec14 : Int32 → Int32 → q_W → Option (Int32 × q_W)) (hr14 : ∀ x2 x3 w, q_J X S_C l mX3_seekBest 6 q_tI 14 [(0, .ref 37), (1, .ref q1), (2, .int x2), (3, .int x3)] [] w (rec14 x2 x3 w)) (rec56 : Int32 → Int32 → Int32 → Int32 → Int32 → q_W → Option (Int32 × q_W)) (hr56 : ∀ x2 x3 x4 x5 x6 w, q_J X S_C l mX3_seekBest 6 q_tI 56 [(0, .ref 37), (1, .ref q1), (2, .int x2), (3, .int x3), (4, .int x4), (5, .int x5), (6, .int x6)] [] w (rec56 x2 x3 x4 x5 x6 w)) : ∀ x2 x3 x4 x5 x6 w, q_J X S_C l mX3_seekBest 6 q_tI 56 [(0, .ref 37), (1, .ref q1), (2, .int x2), (3, .int x3), (4, .int x4), (5, .int x5), (6, .int x6)] [] w (fX3_seekBest_h56 q1 rec14 rec56 x2 x3 x4 x5 x6 w) := by
  intro x2 x3 x4 x5 x6 w
  refine q_iload 6 eX3_seekBest_56 rfl ?_
  refine q_iload 4 eX3_seekBest_58 rfl ?_
  refine q_icmp_gt (tgt := 131) eX3_seekBest_60 (by decide) (fun _ => ?_) (fun _ => ?_)
  · refine q_ltE (fun y1 hy1 => ?_)
    refine q_iinc (v := y1) (lv' := [(3, .int y1), (0, .ref 37), (1, .ref q1), (2, .int x2), (4, .int x4), (5, .int x5), (6, .int x6)]) 3 eX3_seekBest_131 rfl hy1 (by decide) rfl ?_
    refine q_goto (tgt := 14) eX3_seekBest_134 (by decide) ?_
    exact q_sub [1, 2, 3, 0] rfl (hr14 x2 y1 w)
  · refine q_iconst eX3_seekBest_63 kiconst_0 ?_
    refine q_istore (lv' := [(7, .int 0), (0, .ref 37), (1, .ref q1), (2, .int x2), (3, .int x3), (4, .int x4), (5, .int x5), (6, .int x6)]) eX3_seekBest_64 (by decide) rfl ?_
    exact q_sub [1, 2, 3, 4, 5, 6, 7, 0] rfl (jX3_seekBest_l66 X l q1 h1 rec14 rec56 hr14 hr56 x2 x3 x4 x5 x6 0 w)
set_option maxHeartbeats 4000000 in
set_option maxRecDepth 100000 in
theorem jX3_seekBest_l56 (X : q_X) (l : Launch) (q1 : Nat) (h1 : cC q1 = 4) (rec14 : Int32 → Int32 → q_W → Option (Int32 × q_W)) (hr14 : ∀ x2 x3 w, q_J X S_C l mX3_seekBest 6 q_tI 14 [(0, .ref 37), (1, .ref q1), (2, .int x2), (3, .int x3)] [] w (rec14 x2 x3 w)) : ∀ x2 x3 x4 x5 x6 w, q_J X S_C l mX3_seekBest 6 q_tI 56 [(0, .ref 37), (1, .ref q1), (2, .int x2), (3, .int x3), (4, .int x4), (5, .int x5), (6, .int x6)] [] w (fX3_seekBest_l56 q1 rec14 x2 x3 x4 x5 x6 w) := by
  exact q_it_ind (fun rc => ∀ x2 x3 x4 x5 x6 w, q_J X S_C l mX3_seekBest 6 q_tI 56 [(0, .ref 37), (1, .ref q1), (2, .int x2), (3, .int x3), (4, .int x4), (5, .int x5), (6, .int x6)] [] w (rc x2 x3 x4 x5 x6 w)) _ _ (fun _ _ _ _ _ _ => q_none) (fun rc hrc => jX3_seekBest_h56 X l q1 h1 rec14 hr14 rc hrc) q_N
def fX3_seekBest_n51 (q1 : Nat) (rec14 : Int32 → Int32 → q_W → Option (Int32 × q_W)) (x2 : Int32) (x3 : Int32) (x4 : Int32) (s0 : Int32) (w : q_W) : Option (Int32 × q_W) :=
  fX3_seekBest_l56 q1 rec14 x2 x3 x4 s0 0 w
set_option maxHeartbeats 4000000 in
set_option maxRecDepth 100000 in
theorem jX3_seekBest_n51 (X : q_X) (l : Launch) (q1 : Nat) (h1 : cC q1 = 4) (rec14 : Int32 → Int32 → q_W → Option (Int32 × q_W)) (hr14 : ∀ x2 x3 w, q_J X S_C l mX3_seekBest 6 q_tI 14 [(0, .ref 37), (1, .ref q1), (2, .int x2), (3, .int x3)] [] w (rec14 x2 x3 w)) (x2 : Int32) (x3 : Int32) (x4 : Int32) (s0 : Int32) (w : q_W) : q_J X S_C l mX3_seekBest 6 q_tI 51 [(0, .ref 37), (1, .ref q1), (2, .int x2), (3, .int x3), (4, .int x4)] [.int s0] w (fX3_seekBest_n51 q1 rec14 x2 x3 x4 s0 w) := by
  refine q_istore (lv' := [(5, .int s0), (0, .ref 37), (1, .ref q1), (2, .int x2), (3, .int x3), (4, .int x4)]) eX3_seekBest_51 (by decide) rfl ?_
  refine q_iconst eX3_seekBest_53 kiconst_0 ?_
  refine q_istore (lv' := [(6, .int 0), (5, .int s0), (0, .ref 37), (1, .ref q1), (2, .int x2), (3, .int x3), (4, .int x4)]) eX3_seekBest_54 (by decide) rfl ?_
  exact q_sub [2, 3, 4, 5, 6, 1, 0] rfl (jX3_seekBest_l56 X l q1 h1 rec14 hr14 x2 x3 x4 s0 0 w)
def fX3_seekBest_n35 (q1 : Nat) (rec14 : Int32 → Int32 → q_W → Option (Int32 × q_W)) (x2 : Int32) (x3 : Int32) (s0 : Int32) (w : q_W) : Option (Int32 × q_W) :=
  q_b (fX4_needs q1 x3 w) fun r1 w2 =>
  if r1 ≤ 1 then
    fX3_seekBest_n51 q1 rec14 x2 x3 s0 0 w2
  else
    fX3_seekBest_n51 q1 rec14 x2 x3 s0 3 w2
set_option maxHeartbeats 4000000 in
set_option maxRecDepth 100000 in
theorem jX3_seekBest_n35 (X : q_X) (l : Launch) (q1 : Nat) (h1 : cC q1 = 4) (rec14 : Int32 → Int32 → q_W → Option (Int32 × q_W)) (hr14 : ∀ x2 x3 w, q_J X S_C l mX3_seekBest 6 q_tI 14 [(0, .ref 37), (1, .ref q1), (2, .int x2), (3, .int x3)] [] w (rec14 x2 x3 w)) (x2 : Int32) (x3 : Int32) (s0 : Int32) (w : q_W) : q_J X S_C l mX3_seekBest 6 q_tI 35 [(0, .ref 37), (1, .ref q1), (2, .int x2), (3, .int x3)] [.int s0] w (fX3_seekBest_n35 q1 rec14 x2 x3 s0 w) := by
  refine q_istore (lv' := [(4, .int s0), (0, .ref 37), (1, .ref q1), (2, .int x2), (3, .int x3)]) eX3_seekBest_35 (by decide) rfl ?_
  refine q_aload_n 2 eX3_seekBest_37 rfl rfl ?_
  refine q_iload_n 4 eX3_seekBest_38 rfl rfl ?_
  refine q_callVI (As := [.int x3]) (st := []) eX3_seekBest_39 cv_3_61 (kX4_needs X l q1 x3 w) h1 rfl (by decide) rfl rfl (Nat.le_of_ble_eq_true rfl) (by decide) (fun r1 w2 => ?_)
  refine q_iconst eX3_seekBest_42 kiconst_1 ?_
  refine q_icmp_le (tgt := 50) eX3_seekBest_43 (by decide) (fun _ => ?_) (fun _ => ?_)
  · refine q_iconst eX3_seekBest_50 kiconst_0 ?_
    exact q_sub [1, 2, 3, 4, 0] rfl (jX3_seekBest_n51 X l q1 h1 rec14 hr14 x2 x3 s0 0 w2)
  · refine q_iconst eX3_seekBest_46 kiconst_3 ?_
    refine q_goto (tgt := 51) eX3_seekBest_47 (by decide) ?_
    exact q_sub [1, 2, 3, 4, 0] rfl (jX3_seekBest_n51 X l q1 h1 rec14 hr14 x2 x3 s0 3 w2)
def fX3_seekBest_h14 (q1 : Nat) (rec14 : Int32 → Int32 → q_W → Option (Int32 × q_W)) (x2 : Int32) (x3 : Int32) (w : q_W) : Option (Int32 × q_W) :=
  q_b (fX4_size q1 w) fun r1 w2 =>
  if r1 ≤ x3 then
    if (w2.1 37 10) = (-1) then
      some (0, w2)
    else
      some (1, w2)
  else
    q_b (fX4_needs q1 x3 w2) fun r3 w4 =>
    if r3 ≤ 0 then
      fX3_seekBest_n35 q1 rec14 x2 x3 0 w4
    else
      fX3_seekBest_n35 q1 rec14 x2 x3 3 w4
def fX3_seekBest_l14 (q1 : Nat) : Int32 → Int32 → q_W → Option (Int32 × q_W) := q_it q_N (fX3_seekBest_h14 q1) (fun _ _ _ => none)
set_option maxHeartbeats 4000000 in
set_option maxRecDepth 100000 in
theorem jX3_seekBest_h14 (X : q_X) (l : Launch) (q1 : Nat) (h1 : cC q1 = 4) (rec14 : Int32 → Int32 → q_W → Option (Int32 × q_W)) (hr14 : ∀ x2 x3 w, q_J X S_C l mX3_seekBest 6 q_tI 14 [(0, .ref 37), (1, .ref q1), (2, .int x2), (3, .int x3)] [] w (rec14 x2 x3 w)) : ∀ x2 x3 w, q_J X S_C l mX3_seekBest 6 q_tI 14 [(0, .ref 37), (1, .ref q1), (2, .int x2), (3, .int x3)] [] w (fX3_seekBest_h14 q1 rec14 x2 x3 w) := by
  intro x2 x3 w
  refine q_iload_n 3 eX3_seekBest_14 rfl rfl ?_
  refine q_aload_n 1 eX3_seekBest_15 rfl rfl ?_
  refine q_callVI (As := []) (st := [.int x3]) eX3_seekBest_16 cv_3_57 (kX4_size X l q1 w) h1 rfl (by decide) rfl rfl (Nat.le_of_ble_eq_true rfl) (by decide) (fun r1 w2 => ?_)
  refine q_icmp_ge (tgt := 137) eX3_seekBest_19 (by decide) (fun _ => ?_) (fun _ => ?_)
  · refine q_aload_n 0 eX3_seekBest_137 rfl rfl ?_
    refine q_getI eX3_seekBest_138 fl_3_45 tC_37 rfl ?_
    refine q_iconst eX3_seekBest_141 kiconst_m1 ?_
    refine q_icmp_eq (tgt := 149) eX3_seekBest_142 (by decide) (fun _ => ?_) (fun _ => ?_)
    · refine q_iconst eX3_seekBest_149 kiconst_0 ?_
      exact q_zret eX3_seekBest_150 rfl rfl
    · refine q_iconst eX3_seekBest_145 kiconst_1 ?_
      refine q_goto (tgt := 150) eX3_seekBest_146 (by decide) ?_
      exact q_zret eX3_seekBest_150 rfl rfl
  · refine q_aload_n 1 eX3_seekBest_22 rfl rfl ?_
    refine q_iload_n 3 eX3_seekBest_23 rfl rfl ?_
    refine q_callVI (As := [.int x3]) (st := []) eX3_seekBest_24 cv_3_61 (kX4_needs X l q1 x3 w2) h1 rfl (by decide) rfl rfl (Nat.le_of_ble_eq_true rfl) (by decide) (fun r3 w4 => ?_)
    refine q_if_le (tgt := 34) eX3_seekBest_27 (by decide) (fun _ => ?_) (fun _ => ?_)
    · refine q_iconst eX3_seekBest_34 kiconst_0 ?_
      exact q_sub [0, 1, 2, 3] rfl (jX3_seekBest_n35 X l q1 h1 rec14 hr14 x2 x3 0 w4)
    · refine q_iconst eX3_seekBest_30 kiconst_3 ?_
      refine q_goto (tgt := 35) eX3_seekBest_31 (by decide) ?_
      exact q_sub [0, 1, 2, 3] rfl (jX3_seekBest_n35 X l q1 h1 rec14 hr14 x2 x3 3 w4)
set_option maxHeartbeats 4000000 in
set_option maxRecDepth 100000 in
theorem jX3_seekBest_l14 (X : q_X) (l : Launch) (q1 : Nat) (h1 : cC q1 = 4) : ∀ x2 x3 w, q_J X S_C l mX3_seekBest 6 q_tI 14 [(0, .ref 37), (1, .ref q1), (2, .int x2), (3, .int x3)] [] w (fX3_seekBest_l14 q1 x2 x3 w) := by
  exact q_it_ind (fun rc => ∀ x2 x3 w, q_J X S_C l mX3_seekBest 6 q_tI 14 [(0, .ref 37), (1, .ref q1), (2, .int x2), (3, .int x3)] [] w (rc x2 x3 w)) _ _ (fun _ _ _ => q_none) (fun rc hrc => jX3_seekBest_h14 X l q1 h1 rc hrc) q_N
def fX3_seekBest (q1 : Nat) (a2 : Int32) (w : q_W) : Option (Int32 × q_W) :=
  if cC q1 = 4 then
  q_lt (q_sI w 37 10 (-1)) fun w1 =>
  q_lt (q_sI w1 37 11 257) fun w2 =>
  fX3_seekBest_l14 q1 a2 0 w2
  else none
set_option maxHeartbeats 4000000 in
set_option maxRecDepth 100000 in
theorem kX3_seekBest (X : q_X) (l : Launch) (q1 : Nat) (a2 : Int32) (w : q_W) : q_Ct X S_C l mX3_seekBest 6 q_tI [.ref 37, .ref q1, .int a2] w (fX3_seekBest q1 a2 w) := by
  refine q_intro (lv := [(0, .ref 37), (1, .ref q1), (2, .int a2)]) (by decide +kernel) rfl (Nat.le_of_ble_eq_true rfl) rfl ?_
  refine q_ck (fun h1 => ?_)
  refine q_aload_n 0 eX3_seekBest_0 rfl rfl ?_
  refine q_iconst eX3_seekBest_1 kiconst_m1 ?_
  refine q_putI eX3_seekBest_2 fp_3_45 tC_37 rfl ⟨rfl, rfl⟩ ?_
  refine q_ltW (fun w1 => ?_)
  refine q_aload_n 0 eX3_seekBest_5 rfl rfl ?_
  refine q_sipush eX3_seekBest_6 ksipush_257 ?_
  refine q_putI eX3_seekBest_9 fp_3_49 tC_37 rfl ⟨rfl, rfl⟩ ?_
  refine q_ltW (fun w2 => ?_)
  refine q_iconst eX3_seekBest_12 kiconst_0 ?_
  refine q_istore_n (lv' := [(3, .int 0), (0, .ref 37), (1, .ref q1), (2, .int a2)]) eX3_seekBest_13 rfl (by decide) rfl ?_
  exact q_sub [1, 2, 3, 0] rfl (jX3_seekBest_l14 X l q1 h1 a2 0 w2)
def fX3_doEach_n105 (q1 : Nat) (rec10 : Int32 → q_W → Option (Unit × q_W)) (x2 : Int32) (s0 : Int32) (s1 : Int32) (w : q_W) : Option (Unit × q_W) :=
  if q_inb s1 8 then
  q_lt (q_sI w 39 (q_ix s1) s0) fun w1 =>
  q_b (fX1_deedsDone w1) fun r2 w3 =>
  if q_inb x2 8 then
  q_lt (q_sI w3 40 (q_ix x2) r2) fun w4 =>
  q_lt (x2 + 1) fun y5 =>
  rec10 y5 w4
  else none
  else none
set_option maxHeartbeats 4000000 in
set_option maxRecDepth 100000 in
theorem jX3_doEach_n105 (X : q_X) (l : Launch) (q1 : Nat) (h1 : cC q1 = 4) (rec10 : Int32 → q_W → Option (Unit × q_W)) (hr10 : ∀ x2 w, q_J X S_C l mX3_doEach 5 q_tV 10 [(0, .ref 37), (1, .ref q1), (2, .int x2)] [] w (rec10 x2 w)) (x2 : Int32) (s0 : Int32) (s1 : Int32) (w : q_W) : q_J X S_C l mX3_doEach 5 q_tV 105 [(0, .ref 37), (1, .ref q1), (2, .int x2)] [.int s0, .int s1, .ref 39] w (fX3_doEach_n105 q1 rec10 x2 s0 s1 w) := by
  refine q_iast eX3_doEach_105 tC_39 nC_39 ?_
  refine q_ltW (fun w1 => ?_)
  refine q_aload_n 0 eX3_doEach_106 rfl rfl ?_
  refine q_getG (v := 40) eX3_doEach_107 fl_3_20 tC_37 rfl gC_37_6 ?_
  refine q_iload_n 2 eX3_doEach_110 rfl rfl ?_
  refine q_aload_n 0 eX3_doEach_111 rfl rfl ?_
  refine q_getG (v := 31) eX3_doEach_112 fl_3_29 tC_37 rfl gC_37_0 ?_
  refine q_callVI (As := []) (st := [.int x2, .ref 40]) eX3_doEach_115 cv_3_122 (kX1_deedsDone X l w1) tC_31 rfl (by decide) rfl rfl (Nat.le_of_ble_eq_true rfl) (by decide) (fun r2 w3 => ?_)
  refine q_iast eX3_doEach_118 tC_40 nC_40 ?_
  refine q_ltW (fun w4 => ?_)
  refine q_ltE (fun y5 hy5 => ?_)
  refine q_iinc (v := y5) (lv' := [(2, .int y5), (0, .ref 37), (1, .ref q1)]) 2 eX3_doEach_119 rfl hy5 (by decide) rfl ?_
  refine q_goto (tgt := 10) eX3_doEach_122 (by decide) ?_
  exact q_sub [1, 2, 0] rfl (hr10 y5 w4)
def fX3_doEach_n77 (q1 : Nat) (rec10 : Int32 → q_W → Option (Unit × q_W)) (x2 : Int32) (s0 : Int32) (w : q_W) : Option (Unit × q_W) :=
  if s0 = 0 then
    fX3_doEach_n105 q1 rec10 x2 (-1) x2 w
  else
    q_b (fX6_size 9 w) fun r1 w2 =>
    if q_inb x2 8 then
    fX3_doEach_n105 q1 rec10 x2 (r1 - (w2.1 38 (q_ix x2))) x2 w2
    else none
set_option maxHeartbeats 4000000 in
set_option maxRecDepth 100000 in
theorem jX3_doEach_n77 (X : q_X) (l : Launch) (q1 : Nat) (h1 : cC q1 = 4) (rec10 : Int32 → q_W → Option (Unit × q_W)) (hr10 : ∀ x2 w, q_J X S_C l mX3_doEach 5 q_tV 10 [(0, .ref 37), (1, .ref q1), (2, .int x2)] [] w (rec10 x2 w)) (x2 : Int32) (s0 : Int32) (w : q_W) : q_J X S_C l mX3_doEach 5 q_tV 77 [(0, .ref 37), (1, .ref q1), (2, .int x2)] [.int s0] w (fX3_doEach_n77 q1 rec10 x2 s0 w) := by
  refine q_istore_n (lv' := [(3, .int s0), (0, .ref 37), (1, .ref q1), (2, .int x2)]) eX3_doEach_77 rfl (by decide) rfl ?_
  refine q_aload_n 1 eX3_doEach_78 rfl rfl ?_
  refine q_getG (v := 39) eX3_doEach_79 fl_3_17 tC_37 rfl gC_37_5 ?_
  refine q_iload_n 3 eX3_doEach_82 rfl rfl ?_
  refine q_iload_n 0 eX3_doEach_83 rfl rfl ?_
  refine q_if_eq (tgt := 104) eX3_doEach_84 (by decide) (fun _ => ?_) (fun _ => ?_)
  · refine q_iconst eX3_doEach_104 kiconst_m1 ?_
    exact q_sub [1, 2, 3] rfl (jX3_doEach_n105 X l q1 h1 rec10 hr10 x2 (-1) x2 w)
  · refine q_aload_n 1 eX3_doEach_87 rfl rfl ?_
    refine q_getG (v := 9) eX3_doEach_88 fl_3_33 tC_37 rfl gC_37_1 ?_
    refine q_callVI (As := []) (st := [.int x2, .ref 39]) eX3_doEach_91 cv_3_87 (kX6_size X l 9 w) tC_9 rfl (by decide) rfl rfl (Nat.le_of_ble_eq_true rfl) (by decide) (fun r1 w2 => ?_)
    refine q_aload_n 1 eX3_doEach_94 rfl rfl ?_
    refine q_getG (v := 38) eX3_doEach_95 fl_3_11 tC_37 rfl gC_37_4 ?_
    refine q_iload_n 3 eX3_doEach_98 rfl rfl ?_
    refine q_iald eX3_doEach_99 tC_38 nC_38 ?_
    refine q_isub eX3_doEach_100 ?_
    refine q_goto (tgt := 105) eX3_doEach_101 (by decide) ?_
    exact q_sub [1, 2, 3] rfl (jX3_doEach_n105 X l q1 h1 rec10 hr10 x2 (r1 - (w2.1 38 (q_ix x2))) x2 w2)
def fX3_doEach_n76 (q1 : Nat) (rec10 : Int32 → q_W → Option (Unit × q_W)) (x2 : Int32) (w : q_W) : Option (Unit × q_W) :=
  fX3_doEach_n77 q1 rec10 x2 0 w
set_option maxHeartbeats 4000000 in
set_option maxRecDepth 100000 in
theorem jX3_doEach_n76 (X : q_X) (l : Launch) (q1 : Nat) (h1 : cC q1 = 4) (rec10 : Int32 → q_W → Option (Unit × q_W)) (hr10 : ∀ x2 w, q_J X S_C l mX3_doEach 5 q_tV 10 [(0, .ref 37), (1, .ref q1), (2, .int x2)] [] w (rec10 x2 w)) (x2 : Int32) (w : q_W) : q_J X S_C l mX3_doEach 5 q_tV 76 [(0, .ref 37), (1, .ref q1), (2, .int x2)] [] w (fX3_doEach_n76 q1 rec10 x2 w) := by
  refine q_iconst eX3_doEach_76 kiconst_0 ?_
  exact q_sub [0, 1, 2] rfl (jX3_doEach_n77 X l q1 h1 rec10 hr10 x2 0 w)
def fX3_doEach_h10 (q1 : Nat) (rec10 : Int32 → q_W → Option (Unit × q_W)) (x2 : Int32) (w : q_W) : Option (Unit × q_W) :=
  if 8 ≤ x2 then
    some ((), w)
  else
    q_b (fX6_allow 9 60 w) fun r1 w2 =>
    q_b (fX6_size 9 w2) fun r3 w4 =>
    if q_inb x2 8 then
    q_lt (q_sI w4 38 (q_ix x2) r3) fun w5 =>
    q_b (fX4_has q1 x2 w5) fun r6 w7 =>
    if r6 = 0 then
      fX3_doEach_n76 q1 rec10 x2 w7
    else
      q_b (fX4_needs q1 x2 w7) fun r8 w9 =>
      if r8 = 0 then
        q_b (fX1_perform q1 x2 0 0 9 w9) fun r10 w11 =>
        if r10 = 0 then
          fX3_doEach_n77 q1 rec10 x2 1 w11
        else
          fX3_doEach_n76 q1 rec10 x2 w11
      else
        fX3_doEach_n76 q1 rec10 x2 w9
    else none
def fX3_doEach_l10 (q1 : Nat) : Int32 → q_W → Option (Unit × q_W) := q_it q_N (fX3_doEach_h10 q1) (fun _ _ => none)
set_option maxHeartbeats 4000000 in
set_option maxRecDepth 100000 in
theorem jX3_doEach_h10 (X : q_X) (l : Launch) (q1 : Nat) (h1 : cC q1 = 4) (rec10 : Int32 → q_W → Option (Unit × q_W)) (hr10 : ∀ x2 w, q_J X S_C l mX3_doEach 5 q_tV 10 [(0, .ref 37), (1, .ref q1), (2, .int x2)] [] w (rec10 x2 w)) : ∀ x2 w, q_J X S_C l mX3_doEach 5 q_tV 10 [(0, .ref 37), (1, .ref q1), (2, .int x2)] [] w (fX3_doEach_h10 q1 rec10 x2 w) := by
  intro x2 w
  refine q_iload_n 2 eX3_doEach_10 rfl rfl ?_
  refine q_bipush eX3_doEach_11 kbipush_8 ?_
  refine q_icmp_ge (tgt := 125) eX3_doEach_13 (by decide) (fun _ => ?_) (fun _ => ?_)
  · exact q_return eX3_doEach_125 rfl
  · refine q_aload_n 0 eX3_doEach_16 rfl rfl ?_
    refine q_getG (v := 9) eX3_doEach_17 fl_3_33 tC_37 rfl gC_37_1 ?_
    refine q_bipush eX3_doEach_20 kbipush_60 ?_
    refine q_callVV (As := [.int 60]) (st := []) eX3_doEach_22 cv_3_116 (kX6_allow X l 9 60 w) tC_9 rfl (by decide) rfl rfl (Nat.le_of_ble_eq_true rfl) (by decide) (fun r1 w2 => ?_)
    refine q_aload_n 0 eX3_doEach_25 rfl rfl ?_
    refine q_getG (v := 38) eX3_doEach_26 fl_3_11 tC_37 rfl gC_37_4 ?_
    refine q_iload_n 2 eX3_doEach_29 rfl rfl ?_
    refine q_aload_n 0 eX3_doEach_30 rfl rfl ?_
    refine q_getG (v := 9) eX3_doEach_31 fl_3_33 tC_37 rfl gC_37_1 ?_
    refine q_callVI (As := []) (st := [.int x2, .ref 38]) eX3_doEach_34 cv_3_87 (kX6_size X l 9 w2) tC_9 rfl (by decide) rfl rfl (Nat.le_of_ble_eq_true rfl) (by decide) (fun r3 w4 => ?_)
    refine q_iast eX3_doEach_37 tC_38 nC_38 ?_
    refine q_ltW (fun w5 => ?_)
    refine q_aload_n 1 eX3_doEach_38 rfl rfl ?_
    refine q_iload_n 2 eX3_doEach_39 rfl rfl ?_
    refine q_callVI (As := [.int x2]) (st := []) eX3_doEach_40 cv_3_119 (kX4_has X l q1 x2 w5) h1 rfl (by decide) rfl rfl (Nat.le_of_ble_eq_true rfl) (by decide) (fun r6 w7 => ?_)
    refine q_if_eq (tgt := 76) eX3_doEach_43 (by decide) (fun _ => ?_) (fun _ => ?_)
    · exact q_sub [0, 1, 2] rfl (jX3_doEach_n76 X l q1 h1 rec10 hr10 x2 w7)
    · refine q_aload_n 1 eX3_doEach_46 rfl rfl ?_
      refine q_iload_n 2 eX3_doEach_47 rfl rfl ?_
      refine q_callVI (As := [.int x2]) (st := []) eX3_doEach_48 cv_3_61 (kX4_needs X l q1 x2 w7) h1 rfl (by decide) rfl rfl (Nat.le_of_ble_eq_true rfl) (by decide) (fun r8 w9 => ?_)
      refine q_if_ne (tgt := 76) eX3_doEach_51 (by decide) (fun _ => ?_) (fun _ => ?_)
      · refine q_aload_n 0 eX3_doEach_54 rfl rfl ?_
        refine q_getG (v := 31) eX3_doEach_55 fl_3_29 tC_37 rfl gC_37_0 ?_
        refine q_aload_n 1 eX3_doEach_58 rfl rfl ?_
        refine q_iload_n 2 eX3_doEach_59 rfl rfl ?_
        refine q_iconst eX3_doEach_60 kiconst_0 ?_
        refine q_iconst eX3_doEach_61 kiconst_0 ?_
        refine q_aload_n 0 eX3_doEach_62 rfl rfl ?_
        refine q_getG (v := 9) eX3_doEach_63 fl_3_33 tC_37 rfl gC_37_1 ?_
        refine q_callVI (As := [.ref q1, .int x2, .int 0, .int 0, .ref 9]) (st := []) eX3_doEach_66 cv_3_71 (kX1_perform X l q1 x2 0 0 9 w9) tC_31 rfl (by decide) rfl rfl (Nat.le_of_ble_eq_true rfl) (by decide) (fun r10 w11 => ?_)
        refine q_if_ne (tgt := 76) eX3_doEach_69 (by decide) (fun _ => ?_) (fun _ => ?_)
        · refine q_iconst eX3_doEach_72 kiconst_1 ?_
          refine q_goto (tgt := 77) eX3_doEach_73 (by decide) ?_
          exact q_sub [0, 1, 2] rfl (jX3_doEach_n77 X l q1 h1 rec10 hr10 x2 1 w11)
        · exact q_sub [0, 1, 2] rfl (jX3_doEach_n76 X l q1 h1 rec10 hr10 x2 w11)
      · exact q_sub [0, 1, 2] rfl (jX3_doEach_n76 X l q1 h1 rec10 hr10 x2 w9)
set_option maxHeartbeats 4000000 in
set_option maxRecDepth 100000 in
theorem jX3_doEach_l10 (X : q_X) (l : Launch) (q1 : Nat) (h1 : cC q1 = 4) : ∀ x2 w, q_J X S_C l mX3_doEach 5 q_tV 10 [(0, .ref 37), (1, .ref q1), (2, .int x2)] [] w (fX3_doEach_l10 q1 x2 w) := by
  exact q_it_ind (fun rc => ∀ x2 w, q_J X S_C l mX3_doEach 5 q_tV 10 [(0, .ref 37), (1, .ref q1), (2, .int x2)] [] w (rc x2 w)) _ _ (fun _ _ => q_none) (fun rc hrc => jX3_doEach_h10 X l q1 h1 rc hrc) q_N
def fX3_doEach (q1 : Nat) (w : q_W) : Option (Unit × q_W) :=
  if cC q1 = 4 then
  q_b (fX6_clear 9 0 w) fun r1 w2 =>
  fX3_doEach_l10 q1 0 w2
  else none
set_option maxHeartbeats 4000000 in
set_option maxRecDepth 100000 in
theorem kX3_doEach (X : q_X) (l : Launch) (q1 : Nat) (w : q_W) : q_Ct X S_C l mX3_doEach 5 q_tV [.ref 37, .ref q1] w (fX3_doEach q1 w) := by
  refine q_intro (lv := [(0, .ref 37), (1, .ref q1)]) (by decide +kernel) rfl (Nat.le_of_ble_eq_true rfl) rfl ?_
  refine q_ck (fun h1 => ?_)
  refine q_aload_n 0 eX3_doEach_0 rfl rfl ?_
  refine q_getG (v := 9) eX3_doEach_1 fl_3_33 tC_37 rfl gC_37_1 ?_
  refine q_iconst eX3_doEach_4 kiconst_0 ?_
  refine q_callVV (As := [.int 0]) (st := []) eX3_doEach_5 cv_3_65 (kX6_clear X l 9 0 w) tC_9 rfl (by decide) rfl rfl (Nat.le_of_ble_eq_true rfl) (by decide) (fun r1 w2 => ?_)
  refine q_iconst eX3_doEach_8 kiconst_0 ?_
  refine q_istore_n (lv' := [(2, .int 0), (0, .ref 37), (1, .ref q1)]) eX3_doEach_9 rfl (by decide) rfl ?_
  exact q_sub [1, 2, 0] rfl (jX3_doEach_l10 X l q1 h1 0 w2)
def fX3_holdsTogether_n79 (x2 : Int32) (x3 : Int32) (w : q_W) : Option (Int32 × q_W) :=
  if 60 < x2 then
    some (0, w)
  else
    if 2000 < x3 then
      some (0, w)
    else
      some (1, w)
set_option maxHeartbeats 4000000 in
set_option maxRecDepth 100000 in
theorem jX3_holdsTogether_n79 (X : q_X) (l : Launch) (x2 : Int32) (x3 : Int32) (w : q_W) : q_J X S_C l mX3_holdsTogether 0 q_tI 79 [(2, .int x2), (3, .int x3)] [] w (fX3_holdsTogether_n79 x2 x3 w) := by
  refine q_iload_n 0 eX3_holdsTogether_79 rfl rfl ?_
  refine q_bipush eX3_holdsTogether_80 kbipush_60 ?_
  refine q_icmp_gt (tgt := 96) eX3_holdsTogether_82 (by decide) (fun _ => ?_) (fun _ => ?_)
  · refine q_iconst eX3_holdsTogether_96 kiconst_0 ?_
    exact q_zret eX3_holdsTogether_97 rfl rfl
  · refine q_iload_n 1 eX3_holdsTogether_85 rfl rfl ?_
    refine q_sipush eX3_holdsTogether_86 ksipush_2000 ?_
    refine q_icmp_gt (tgt := 96) eX3_holdsTogether_89 (by decide) (fun _ => ?_) (fun _ => ?_)
    · refine q_iconst eX3_holdsTogether_96 kiconst_0 ?_
      exact q_zret eX3_holdsTogether_97 rfl rfl
    · refine q_iconst eX3_holdsTogether_92 kiconst_1 ?_
      refine q_goto (tgt := 97) eX3_holdsTogether_93 (by decide) ?_
      exact q_zret eX3_holdsTogether_97 rfl rfl
def fX3_holdsTogether_h7 (rec7 : Int32 → Int32 → Int32 → Int32 → q_W → Option (Int32 × q_W)) (x1 : Int32) (x2 : Int32) (x3 : Int32) (x4 : Int32) (w : q_W) : Option (Int32 × q_W) :=
  if x1 ≤ x4 then
    fX3_holdsTogether_n79 x2 x3 w
  else
    if 3 ≤ x4 then
      fX3_holdsTogether_n79 x2 x3 w
    else
      if q_inb x4 3 then
      q_lt (w.1 41 (q_ix x4)) fun y1 =>
      if y1 < 0 then
        some (0, w)
      else
        if 8 ≤ y1 then
          some (0, w)
        else
          if q_inb y1 8 then
          if (w.1 39 (q_ix y1)) = (-1) then
            some (0, w)
          else
            if q_inb y1 8 then
            q_lt (x2 + (w.1 39 (q_ix y1))) fun y2 =>
            if q_inb y1 8 then
            q_lt (x3 + (w.1 40 (q_ix y1))) fun y3 =>
            q_lt (x4 + 1) fun y4 =>
            rec7 x1 y2 y3 y4 w
            else none
            else none
          else none
      else none
def fX3_holdsTogether_l7 : Int32 → Int32 → Int32 → Int32 → q_W → Option (Int32 × q_W) := q_it q_N (fX3_holdsTogether_h7) (fun _ _ _ _ _ => none)
set_option maxHeartbeats 4000000 in
set_option maxRecDepth 100000 in
theorem jX3_holdsTogether_h7 (X : q_X) (l : Launch) (rec7 : Int32 → Int32 → Int32 → Int32 → q_W → Option (Int32 × q_W)) (hr7 : ∀ x1 x2 x3 x4 w, q_J X S_C l mX3_holdsTogether 0 q_tI 7 [(0, .ref 37), (1, .int x1), (2, .int x2), (3, .int x3), (4, .int x4)] [] w (rec7 x1 x2 x3 x4 w)) : ∀ x1 x2 x3 x4 w, q_J X S_C l mX3_holdsTogether 0 q_tI 7 [(0, .ref 37), (1, .int x1), (2, .int x2), (3, .int x3), (4, .int x4)] [] w (fX3_holdsTogether_h7 rec7 x1 x2 x3 x4 w) := by
  intro x1 x2 x3 x4 w
  refine q_iload 4 eX3_holdsTogether_7 rfl ?_
  refine q_iload_n 1 eX3_holdsTogether_9 rfl rfl ?_
  refine q_icmp_ge (tgt := 79) eX3_holdsTogether_10 (by decide) (fun _ => ?_) (fun _ => ?_)
  · exact q_sub [2, 3] rfl (jX3_holdsTogether_n79 X l x2 x3 w)
  · refine q_iload 4 eX3_holdsTogether_13 rfl ?_
    refine q_iconst eX3_holdsTogether_15 kiconst_3 ?_
    refine q_icmp_ge (tgt := 79) eX3_holdsTogether_16 (by decide) (fun _ => ?_) (fun _ => ?_)
    · exact q_sub [2, 3] rfl (jX3_holdsTogether_n79 X l x2 x3 w)
    · refine q_aload_n 0 eX3_holdsTogether_19 rfl rfl ?_
      refine q_getG (v := 41) eX3_holdsTogether_20 fl_3_23 tC_37 rfl gC_37_7 ?_
      refine q_iload 4 eX3_holdsTogether_23 rfl ?_
      refine q_iald eX3_holdsTogether_25 tC_41 nC_41 ?_
      refine q_ltI (fun y1 => ?_)
      refine q_istore (lv' := [(5, .int y1), (0, .ref 37), (1, .int x1), (2, .int x2), (3, .int x3), (4, .int x4)]) eX3_holdsTogether_26 (by decide) rfl ?_
      refine q_iload 0 eX3_holdsTogether_28 rfl ?_
      refine q_if_lt (tgt := 51) eX3_holdsTogether_30 (by decide) (fun _ => ?_) (fun _ => ?_)
      · refine q_iconst eX3_holdsTogether_51 kiconst_0 ?_
        exact q_zret eX3_holdsTogether_52 rfl rfl
      · refine q_iload 0 eX3_holdsTogether_33 rfl ?_
        refine q_bipush eX3_holdsTogether_35 kbipush_8 ?_
        refine q_icmp_ge (tgt := 51) eX3_holdsTogether_37 (by decide) (fun _ => ?_) (fun _ => ?_)
        · refine q_iconst eX3_holdsTogether_51 kiconst_0 ?_
          exact q_zret eX3_holdsTogether_52 rfl rfl
        · refine q_aload_n 1 eX3_holdsTogether_40 rfl rfl ?_
          refine q_getG (v := 39) eX3_holdsTogether_41 fl_3_17 tC_37 rfl gC_37_5 ?_
          refine q_iload 0 eX3_holdsTogether_44 rfl ?_
          refine q_iald eX3_holdsTogether_46 tC_39 nC_39 ?_
          refine q_iconst eX3_holdsTogether_47 kiconst_m1 ?_
          refine q_icmp_ne (tgt := 53) eX3_holdsTogether_48 (by decide) (fun _ => ?_) (fun _ => ?_)
          · refine q_iconst eX3_holdsTogether_51 kiconst_0 ?_
            exact q_zret eX3_holdsTogether_52 rfl rfl
          · refine q_iload_n 3 eX3_holdsTogether_53 rfl rfl ?_
            refine q_aload_n 1 eX3_holdsTogether_54 rfl rfl ?_
            refine q_getG (v := 39) eX3_holdsTogether_55 fl_3_17 tC_37 rfl gC_37_5 ?_
            refine q_iload 0 eX3_holdsTogether_58 rfl ?_
            refine q_iald eX3_holdsTogether_60 tC_39 nC_39 ?_
            refine q_iadd eX3_holdsTogether_61 ?_
            refine q_ltI (fun y2 => ?_)
            refine q_istore_n (lv' := [(2, .int y2), (5, .int y1), (0, .ref 37), (1, .int x1), (3, .int x3), (4, .int x4)]) eX3_holdsTogether_62 rfl (by decide) rfl ?_
            refine q_iload_n 4 eX3_holdsTogether_63 rfl rfl ?_
            refine q_aload_n 2 eX3_holdsTogether_64 rfl rfl ?_
            refine q_getG (v := 40) eX3_holdsTogether_65 fl_3_20 tC_37 rfl gC_37_6 ?_
            refine q_iload 1 eX3_holdsTogether_68 rfl ?_
            refine q_iald eX3_holdsTogether_70 tC_40 nC_40 ?_
            refine q_iadd eX3_holdsTogether_71 ?_
            refine q_ltI (fun y3 => ?_)
            refine q_istore_n (lv' := [(3, .int y3), (2, .int y2), (5, .int y1), (0, .ref 37), (1, .int x1), (4, .int x4)]) eX3_holdsTogether_72 rfl (by decide) rfl ?_
            refine q_ltE (fun y4 hy4 => ?_)
            refine q_iinc (v := y4) (lv' := [(4, .int y4), (3, .int y3), (2, .int y2), (5, .int y1), (0, .ref 37), (1, .int x1)]) 5 eX3_holdsTogether_73 rfl hy4 (by decide) rfl ?_
            refine q_goto (tgt := 7) eX3_holdsTogether_76 (by decide) ?_
            exact q_sub [4, 5, 2, 1, 0] rfl (hr7 x1 y2 y3 y4 w)
set_option maxHeartbeats 4000000 in
set_option maxRecDepth 100000 in
theorem jX3_holdsTogether_l7 (X : q_X) (l : Launch) : ∀ x1 x2 x3 x4 w, q_J X S_C l mX3_holdsTogether 0 q_tI 7 [(0, .ref 37), (1, .int x1), (2, .int x2), (3, .int x3), (4, .int x4)] [] w (fX3_holdsTogether_l7 x1 x2 x3 x4 w) := by
  exact q_it_ind (fun rc => ∀ x1 x2 x3 x4 w, q_J X S_C l mX3_holdsTogether 0 q_tI 7 [(0, .ref 37), (1, .int x1), (2, .int x2), (3, .int x3), (4, .int x4)] [] w (rc x1 x2 x3 x4 w)) _ _ (fun _ _ _ _ _ => q_none) (fun rc hrc => jX3_holdsTogether_h7 X l rc hrc) q_N
def fX3_holdsTogether (a1 : Int32) (w : q_W) : Option (Int32 × q_W) :=
  fX3_holdsTogether_l7 a1 0 0 0 w
set_option maxHeartbeats 4000000 in
set_option maxRecDepth 100000 in
theorem kX3_holdsTogether (X : q_X) (l : Launch) (a1 : Int32) (w : q_W) : q_Ct X S_C l mX3_holdsTogether 0 q_tI [.ref 37, .int a1] w (fX3_holdsTogether a1 w) := by
  refine q_intro (lv := [(0, .ref 37), (1, .int a1)]) (by decide +kernel) rfl (Nat.le_of_ble_eq_true rfl) rfl ?_
  refine q_iconst eX3_holdsTogether_0 kiconst_0 ?_
  refine q_istore_n (lv' := [(2, .int 0), (0, .ref 37), (1, .int a1)]) eX3_holdsTogether_1 rfl (by decide) rfl ?_
  refine q_iconst eX3_holdsTogether_2 kiconst_0 ?_
  refine q_istore_n (lv' := [(3, .int 0), (2, .int 0), (0, .ref 37), (1, .int a1)]) eX3_holdsTogether_3 rfl (by decide) rfl ?_
  refine q_iconst eX3_holdsTogether_4 kiconst_0 ?_
  refine q_istore (lv' := [(4, .int 0), (3, .int 0), (2, .int 0), (0, .ref 37), (1, .int a1)]) eX3_holdsTogether_5 (by decide) rfl ?_
  exact q_sub [3, 4, 2, 1, 0] rfl (jX3_holdsTogether_l7 X l a1 0 0 0 w)
def fX3_keepFound_h7 (rec7 : Int32 → q_W → Option (Unit × q_W)) (x2 : Int32) (w : q_W) : Option (Unit × q_W) :=
  if 3 ≤ x2 then
    some ((), w)
  else
    if q_inb x2 3 then
    if q_inb x2 3 then
    q_lt (q_sI w 42 (q_ix x2) (w.1 41 (q_ix x2))) fun w1 =>
    q_lt (x2 + 1) fun y2 =>
    rec7 y2 w1
    else none
    else none
def fX3_keepFound_l7 : Int32 → q_W → Option (Unit × q_W) := q_it q_N (fX3_keepFound_h7) (fun _ _ => none)
set_option maxHeartbeats 4000000 in
set_option maxRecDepth 100000 in
theorem jX3_keepFound_h7 (X : q_X) (l : Launch) (rec7 : Int32 → q_W → Option (Unit × q_W)) (hr7 : ∀ x2 w, q_J X S_C l mX3_keepFound 0 q_tV 7 [(0, .ref 37), (2, .int x2)] [] w (rec7 x2 w)) : ∀ x2 w, q_J X S_C l mX3_keepFound 0 q_tV 7 [(0, .ref 37), (2, .int x2)] [] w (fX3_keepFound_h7 rec7 x2 w) := by
  intro x2 w
  refine q_iload_n 1 eX3_keepFound_7 rfl rfl ?_
  refine q_iconst eX3_keepFound_8 kiconst_3 ?_
  refine q_icmp_ge (tgt := 30) eX3_keepFound_9 (by decide) (fun _ => ?_) (fun _ => ?_)
  · exact q_return eX3_keepFound_30 rfl
  · refine q_aload_n 0 eX3_keepFound_12 rfl rfl ?_
    refine q_getG (v := 42) eX3_keepFound_13 fl_3_26 tC_37 rfl gC_37_8 ?_
    refine q_iload_n 1 eX3_keepFound_16 rfl rfl ?_
    refine q_aload_n 0 eX3_keepFound_17 rfl rfl ?_
    refine q_getG (v := 41) eX3_keepFound_18 fl_3_23 tC_37 rfl gC_37_7 ?_
    refine q_iload_n 1 eX3_keepFound_21 rfl rfl ?_
    refine q_iald eX3_keepFound_22 tC_41 nC_41 ?_
    refine q_iast eX3_keepFound_23 tC_42 nC_42 ?_
    refine q_ltW (fun w1 => ?_)
    refine q_ltE (fun y2 hy2 => ?_)
    refine q_iinc (v := y2) (lv' := [(2, .int y2), (0, .ref 37)]) 1 eX3_keepFound_24 rfl hy2 (by decide) rfl ?_
    refine q_goto (tgt := 7) eX3_keepFound_27 (by decide) ?_
    exact q_sub [1, 0] rfl (hr7 y2 w1)
set_option maxHeartbeats 4000000 in
set_option maxRecDepth 100000 in
theorem jX3_keepFound_l7 (X : q_X) (l : Launch) : ∀ x2 w, q_J X S_C l mX3_keepFound 0 q_tV 7 [(0, .ref 37), (2, .int x2)] [] w (fX3_keepFound_l7 x2 w) := by
  exact q_it_ind (fun rc => ∀ x2 w, q_J X S_C l mX3_keepFound 0 q_tV 7 [(0, .ref 37), (2, .int x2)] [] w (rc x2 w)) _ _ (fun _ _ => q_none) (fun rc hrc => jX3_keepFound_h7 X l rc hrc) q_N
def fX3_keepFound (a1 : Int32) (w : q_W) : Option (Unit × q_W) :=
  q_lt (q_sI w 37 9 a1) fun w1 =>
  fX3_keepFound_l7 0 w1
set_option maxHeartbeats 4000000 in
set_option maxRecDepth 100000 in
theorem kX3_keepFound (X : q_X) (l : Launch) (a1 : Int32) (w : q_W) : q_Ct X S_C l mX3_keepFound 0 q_tV [.ref 37, .int a1] w (fX3_keepFound a1 w) := by
  refine q_intro (lv := [(0, .ref 37), (1, .int a1)]) (by decide +kernel) rfl (Nat.le_of_ble_eq_true rfl) rfl ?_
  refine q_aload_n 0 eX3_keepFound_0 rfl rfl ?_
  refine q_iload_n 1 eX3_keepFound_1 rfl rfl ?_
  refine q_putI eX3_keepFound_2 fp_3_52 tC_37 rfl ⟨rfl, rfl⟩ ?_
  refine q_ltW (fun w1 => ?_)
  refine q_iconst eX3_keepFound_5 kiconst_0 ?_
  refine q_istore_n (lv' := [(2, .int 0), (0, .ref 37), (1, .int a1)]) eX3_keepFound_6 rfl (by decide) rfl ?_
  exact q_sub [1, 0] rfl (jX3_keepFound_l7 X l 0 w1)
def fX3_pickMembers_n62 (rec14 : Int32 → Int32 → q_W → Option (Unit × q_W)) (x1 : Int32) (x3 : Int32) (w : q_W) : Option (Unit × q_W) :=
  q_lt (x3 + 1) fun y1 =>
  rec14 x1 y1 w
set_option maxHeartbeats 4000000 in
set_option maxRecDepth 100000 in
theorem jX3_pickMembers_n62 (X : q_X) (l : Launch) (rec14 : Int32 → Int32 → q_W → Option (Unit × q_W)) (hr14 : ∀ x1 x3 w, q_J X S_C l mX3_pickMembers 2 q_tV 14 [(0, .ref 37), (1, .int x1), (3, .int x3)] [] w (rec14 x1 x3 w)) (x1 : Int32) (x3 : Int32) (w : q_W) : q_J X S_C l mX3_pickMembers 2 q_tV 62 [(0, .ref 37), (1, .int x1), (3, .int x3)] [] w (fX3_pickMembers_n62 rec14 x1 x3 w) := by
  refine q_ltE (fun y1 hy1 => ?_)
  refine q_iinc (v := y1) (lv' := [(3, .int y1), (0, .ref 37), (1, .int x1)]) 2 eX3_pickMembers_62 rfl hy1 (by decide) rfl ?_
  refine q_goto (tgt := 14) eX3_pickMembers_65 (by decide) ?_
  exact q_sub [1, 2, 0] rfl (hr14 x1 y1 w)
def fX3_pickMembers_h14 (rec14 : Int32 → Int32 → q_W → Option (Unit × q_W)) (x1 : Int32) (x3 : Int32) (w : q_W) : Option (Unit × q_W) :=
  if x1 ≤ x3 then
    some ((), w)
  else
    if 3 ≤ x3 then
      some ((), w)
    else
      if q_inb x3 3 then
      q_lt (w.1 41 (q_ix x3)) fun y1 =>
      if y1 < 0 then
        fX3_pickMembers_n62 rec14 x1 x3 w
      else
        if 8 ≤ y1 then
          fX3_pickMembers_n62 rec14 x1 x3 w
        else
          if q_inb y1 8 then
          if q_inb y1 8 then
          q_b (fX3_pickAll (w.1 38 (q_ix y1)) (w.1 39 (q_ix y1)) w) fun r2 w3 =>
          fX3_pickMembers_n62 rec14 x1 x3 w3
          else none
          else none
      else none
def fX3_pickMembers_l14 : Int32 → Int32 → q_W → Option (Unit × q_W) := q_it q_N (fX3_pickMembers_h14) (fun _ _ _ => none)
set_option maxHeartbeats 4000000 in
set_option maxRecDepth 100000 in
theorem jX3_pickMembers_h14 (X : q_X) (l : Launch) (rec14 : Int32 → Int32 → q_W → Option (Unit × q_W)) (hr14 : ∀ x1 x3 w, q_J X S_C l mX3_pickMembers 2 q_tV 14 [(0, .ref 37), (1, .int x1), (3, .int x3)] [] w (rec14 x1 x3 w)) : ∀ x1 x3 w, q_J X S_C l mX3_pickMembers 2 q_tV 14 [(0, .ref 37), (1, .int x1), (3, .int x3)] [] w (fX3_pickMembers_h14 rec14 x1 x3 w) := by
  intro x1 x3 w
  refine q_iload_n 2 eX3_pickMembers_14 rfl rfl ?_
  refine q_iload_n 1 eX3_pickMembers_15 rfl rfl ?_
  refine q_icmp_ge (tgt := 68) eX3_pickMembers_16 (by decide) (fun _ => ?_) (fun _ => ?_)
  · exact q_return eX3_pickMembers_68 rfl
  · refine q_iload_n 2 eX3_pickMembers_19 rfl rfl ?_
    refine q_iconst eX3_pickMembers_20 kiconst_3 ?_
    refine q_icmp_ge (tgt := 68) eX3_pickMembers_21 (by decide) (fun _ => ?_) (fun _ => ?_)
    · exact q_return eX3_pickMembers_68 rfl
    · refine q_aload_n 0 eX3_pickMembers_24 rfl rfl ?_
      refine q_getG (v := 41) eX3_pickMembers_25 fl_3_23 tC_37 rfl gC_37_7 ?_
      refine q_iload_n 2 eX3_pickMembers_28 rfl rfl ?_
      refine q_iald eX3_pickMembers_29 tC_41 nC_41 ?_
      refine q_ltI (fun y1 => ?_)
      refine q_istore (lv' := [(4, .int y1), (0, .ref 37), (1, .int x1), (3, .int x3)]) eX3_pickMembers_30 (by decide) rfl ?_
      refine q_iload 0 eX3_pickMembers_32 rfl ?_
      refine q_if_lt (tgt := 62) eX3_pickMembers_34 (by decide) (fun _ => ?_) (fun _ => ?_)
      · exact q_sub [1, 2, 3] rfl (jX3_pickMembers_n62 X l rec14 hr14 x1 x3 w)
      · refine q_iload 0 eX3_pickMembers_37 rfl ?_
        refine q_bipush eX3_pickMembers_39 kbipush_8 ?_
        refine q_icmp_ge (tgt := 62) eX3_pickMembers_41 (by decide) (fun _ => ?_) (fun _ => ?_)
        · exact q_sub [1, 2, 3] rfl (jX3_pickMembers_n62 X l rec14 hr14 x1 x3 w)
        · refine q_aload_n 1 eX3_pickMembers_44 rfl rfl ?_
          refine q_aload_n 1 eX3_pickMembers_45 rfl rfl ?_
          refine q_getG (v := 38) eX3_pickMembers_46 fl_3_11 tC_37 rfl gC_37_4 ?_
          refine q_iload 0 eX3_pickMembers_49 rfl ?_
          refine q_iald eX3_pickMembers_51 tC_38 nC_38 ?_
          refine q_aload_n 1 eX3_pickMembers_52 rfl rfl ?_
          refine q_getG (v := 39) eX3_pickMembers_53 fl_3_17 tC_37 rfl gC_37_5 ?_
          refine q_iload 0 eX3_pickMembers_56 rfl ?_
          refine q_iald eX3_pickMembers_58 tC_39 nC_39 ?_
          refine q_callVV (As := [.int (w.1 38 (q_ix y1)), .int (w.1 39 (q_ix y1))]) (st := []) eX3_pickMembers_59 cv_3_88 (kX3_pickAll X l (w.1 38 (q_ix y1)) (w.1 39 (q_ix y1)) w) tC_37 rfl (by decide) rfl rfl (Nat.le_of_ble_eq_true rfl) (by decide) (fun r2 w3 => ?_)
          exact q_sub [1, 2, 3] rfl (jX3_pickMembers_n62 X l rec14 hr14 x1 x3 w3)
set_option maxHeartbeats 4000000 in
set_option maxRecDepth 100000 in
theorem jX3_pickMembers_l14 (X : q_X) (l : Launch) : ∀ x1 x3 w, q_J X S_C l mX3_pickMembers 2 q_tV 14 [(0, .ref 37), (1, .int x1), (3, .int x3)] [] w (fX3_pickMembers_l14 x1 x3 w) := by
  exact q_it_ind (fun rc => ∀ x1 x3 w, q_J X S_C l mX3_pickMembers 2 q_tV 14 [(0, .ref 37), (1, .int x1), (3, .int x3)] [] w (rc x1 x3 w)) _ _ (fun _ _ _ => q_none) (fun rc hrc => jX3_pickMembers_h14 X l rc hrc) q_N
def fX3_pickMembers (a1 : Int32) (a2 : Int32) (w : q_W) : Option (Unit × q_W) :=
  q_b (fX0_begin 9 a2 w) fun r1 w2 =>
  fX3_pickMembers_l14 a1 0 w2
set_option maxHeartbeats 4000000 in
set_option maxRecDepth 100000 in
theorem kX3_pickMembers (X : q_X) (l : Launch) (a1 : Int32) (a2 : Int32) (w : q_W) : q_Ct X S_C l mX3_pickMembers 2 q_tV [.ref 37, .int a1, .int a2] w (fX3_pickMembers a1 a2 w) := by
  refine q_intro (lv := [(0, .ref 37), (1, .int a1), (2, .int a2)]) (by decide +kernel) rfl (Nat.le_of_ble_eq_true rfl) rfl ?_
  refine q_aload_n 0 eX3_pickMembers_0 rfl rfl ?_
  refine q_getG (v := 12) eX3_pickMembers_1 fl_3_37 tC_37 rfl gC_37_2 ?_
  refine q_aload_n 0 eX3_pickMembers_4 rfl rfl ?_
  refine q_getG (v := 9) eX3_pickMembers_5 fl_3_33 tC_37 rfl gC_37_1 ?_
  refine q_iload_n 2 eX3_pickMembers_8 rfl rfl ?_
  refine q_callVV (As := [.ref 9, .int a2]) (st := []) eX3_pickMembers_9 cv_3_81 (kX0_begin X l 9 a2 w) tC_12 rfl (by decide) rfl rfl (Nat.le_of_ble_eq_true rfl) (by decide) (fun r1 w2 => ?_)
  refine q_iconst eX3_pickMembers_12 kiconst_0 ?_
  refine q_istore_n (lv' := [(3, .int 0), (0, .ref 37), (1, .int a1), (2, .int a2)]) eX3_pickMembers_13 rfl (by decide) rfl ?_
  exact q_sub [1, 2, 0] rfl (jX3_pickMembers_l14 X l a1 0 w2)
def fX3_setMembers_h19 (rec19 : Int32 → Int32 → Int32 → q_W → Option (Int32 × q_W)) (x3 : Int32) (x4 : Int32) (x5 : Int32) (w : q_W) : Option (Int32 × q_W) :=
  if x5 < 0 then
    if x4 = 0 then
      some (1, w)
    else
      some (0, w)
  else
    if x3 = 0 then none else
    if q_inb x5 3 then
    q_lt (q_sI w 41 (q_ix x5) (x4 - x4 / x3 * x3)) fun w1 =>
    if x3 = 0 then none else
    q_lt (x4 / x3) fun y2 =>
    q_lt (x5 + (-1)) fun y3 =>
    rec19 x3 y2 y3 w1
    else none
def fX3_setMembers_l19 : Int32 → Int32 → Int32 → q_W → Option (Int32 × q_W) := q_it q_N (fX3_setMembers_h19) (fun _ _ _ _ => none)
set_option maxHeartbeats 4000000 in
set_option maxRecDepth 100000 in
theorem jX3_setMembers_h19 (X : q_X) (l : Launch) (rec19 : Int32 → Int32 → Int32 → q_W → Option (Int32 × q_W)) (hr19 : ∀ x3 x4 x5 w, q_J X S_C l mX3_setMembers 0 q_tI 19 [(0, .ref 37), (3, .int x3), (4, .int x4), (5, .int x5)] [] w (rec19 x3 x4 x5 w)) : ∀ x3 x4 x5 w, q_J X S_C l mX3_setMembers 0 q_tI 19 [(0, .ref 37), (3, .int x3), (4, .int x4), (5, .int x5)] [] w (fX3_setMembers_h19 rec19 x3 x4 x5 w) := by
  intro x3 x4 x5 w
  refine q_iload 3 eX3_setMembers_19 rfl ?_
  refine q_if_lt (tgt := 47) eX3_setMembers_21 (by decide) (fun _ => ?_) (fun _ => ?_)
  · refine q_iload 2 eX3_setMembers_47 rfl ?_
    refine q_if_ne (tgt := 56) eX3_setMembers_49 (by decide) (fun _ => ?_) (fun _ => ?_)
    · refine q_iconst eX3_setMembers_52 kiconst_1 ?_
      refine q_goto (tgt := 57) eX3_setMembers_53 (by decide) ?_
      exact q_zret eX3_setMembers_57 rfl rfl
    · refine q_iconst eX3_setMembers_56 kiconst_0 ?_
      exact q_zret eX3_setMembers_57 rfl rfl
  · refine q_aload_n 0 eX3_setMembers_24 rfl rfl ?_
    refine q_getG (v := 41) eX3_setMembers_25 fl_3_23 tC_37 rfl gC_37_7 ?_
    refine q_iload 3 eX3_setMembers_28 rfl ?_
    refine q_iload 2 eX3_setMembers_30 rfl ?_
    refine q_iload_n 1 eX3_setMembers_32 rfl rfl ?_
    refine q_irem eX3_setMembers_33 ?_
    refine q_iast eX3_setMembers_34 tC_41 nC_41 ?_
    refine q_ltW (fun w1 => ?_)
    refine q_iload 2 eX3_setMembers_35 rfl ?_
    refine q_iload_n 1 eX3_setMembers_37 rfl rfl ?_
    refine q_idiv eX3_setMembers_38 ?_
    refine q_ltI (fun y2 => ?_)
    refine q_istore (lv' := [(4, .int y2), (0, .ref 37), (3, .int x3), (5, .int x5)]) eX3_setMembers_39 (by decide) rfl ?_
    refine q_ltE (fun y3 hy3 => ?_)
    refine q_iinc (v := y3) (lv' := [(5, .int y3), (4, .int y2), (0, .ref 37), (3, .int x3)]) 3 eX3_setMembers_41 rfl hy3 (by decide) rfl ?_
    refine q_goto (tgt := 19) eX3_setMembers_44 (by decide) ?_
    exact q_sub [2, 3, 1, 0] rfl (hr19 x3 y2 y3 w1)
set_option maxHeartbeats 4000000 in
set_option maxRecDepth 100000 in
theorem jX3_setMembers_l19 (X : q_X) (l : Launch) : ∀ x3 x4 x5 w, q_J X S_C l mX3_setMembers 0 q_tI 19 [(0, .ref 37), (3, .int x3), (4, .int x4), (5, .int x5)] [] w (fX3_setMembers_l19 x3 x4 x5 w) := by
  exact q_it_ind (fun rc => ∀ x3 x4 x5 w, q_J X S_C l mX3_setMembers 0 q_tI 19 [(0, .ref 37), (3, .int x3), (4, .int x4), (5, .int x5)] [] w (rc x3 x4 x5 w)) _ _ (fun _ _ _ _ => q_none) (fun rc hrc => jX3_setMembers_h19 X l rc hrc) q_N
def fX3_setMembers (a1 : Int32) (a2 : Int32) (a3 : Int32) (w : q_W) : Option (Int32 × q_W) :=
  if a3 ≤ 0 then
    some (0, w)
  else
    if a2 ≤ 3 then
      q_lt (a2 - 1) fun y1 =>
      fX3_setMembers_l19 a3 a1 y1 w
    else
      some (0, w)
set_option maxHeartbeats 4000000 in
set_option maxRecDepth 100000 in
theorem kX3_setMembers (X : q_X) (l : Launch) (a1 : Int32) (a2 : Int32) (a3 : Int32) (w : q_W) : q_Ct X S_C l mX3_setMembers 0 q_tI [.ref 37, .int a1, .int a2, .int a3] w (fX3_setMembers a1 a2 a3 w) := by
  refine q_intro (lv := [(0, .ref 37), (1, .int a1), (2, .int a2), (3, .int a3)]) (by decide +kernel) rfl (Nat.le_of_ble_eq_true rfl) rfl ?_
  refine q_iload_n 3 eX3_setMembers_0 rfl rfl ?_
  refine q_if_le (tgt := 9) eX3_setMembers_1 (by decide) (fun _ => ?_) (fun _ => ?_)
  · refine q_iconst eX3_setMembers_9 kiconst_0 ?_
    exact q_zret eX3_setMembers_10 rfl rfl
  · refine q_iload_n 2 eX3_setMembers_4 rfl rfl ?_
    refine q_iconst eX3_setMembers_5 kiconst_3 ?_
    refine q_icmp_le (tgt := 11) eX3_setMembers_6 (by decide) (fun _ => ?_) (fun _ => ?_)
    · refine q_iload_n 1 eX3_setMembers_11 rfl rfl ?_
      refine q_istore (lv' := [(4, .int a1), (0, .ref 37), (1, .int a1), (2, .int a2), (3, .int a3)]) eX3_setMembers_12 (by decide) rfl ?_
      refine q_iload_n 3 eX3_setMembers_14 rfl rfl ?_
      refine q_iconst eX3_setMembers_15 kiconst_1 ?_
      refine q_isub eX3_setMembers_16 ?_
      refine q_ltI (fun y1 => ?_)
      refine q_istore (lv' := [(5, .int y1), (4, .int a1), (0, .ref 37), (1, .int a1), (2, .int a2), (3, .int a3)]) eX3_setMembers_17 (by decide) rfl ?_
      exact q_sub [2, 5, 1, 0] rfl (jX3_setMembers_l19 X l a3 a1 y1 w)
    · refine q_iconst eX3_setMembers_9 kiconst_0 ?_
      exact q_zret eX3_setMembers_10 rfl rfl
