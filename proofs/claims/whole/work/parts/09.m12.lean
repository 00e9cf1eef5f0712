/-! methods, printed by program: X11_broke X11_where X11_parameters X11_isFact X11_kind X11_number X11_isKnown X11_isStruck X11_struck X11_floats X11_root X11_drag X11_drags X11_isPoint X11_radius X11_backs -/
def fX11_broke (w : q_W) : Option (Int32 × q_W) :=
  some ((w.1 0 53), w)
set_option maxHeartbeats 4000000 in
set_option maxRecDepth 100000 in
theorem kX11_broke (X : q_X) (l : Launch) (w : q_W) : q_Ct X S_R l mX11_broke 0 q_tI [.ref 0] w (fX11_broke w) := by
  refine q_intro (lv := [(0, .ref 0)]) (by decide +kernel) rfl (Nat.le_of_ble_eq_true rfl) rfl ?_
  refine q_aload_n 0 eX11_broke_0 rfl rfl ?_
  refine q_getI eX11_broke_1 fl_11_339 tR_0 rfl ?_
  exact q_ireturn eX11_broke_4 rfl
def fX11_where (w : q_W) : Option (Int32 × q_W) :=
  some ((w.1 0 54), w)
set_option maxHeartbeats 4000000 in
set_option maxRecDepth 100000 in
theorem kX11_where (X : q_X) (l : Launch) (w : q_W) : q_Ct X S_R l mX11_where 0 q_tI [.ref 0] w (fX11_where w) := by
  refine q_intro (lv := [(0, .ref 0)]) (by decide +kernel) rfl (Nat.le_of_ble_eq_true rfl) rfl ?_
  refine q_aload_n 0 eX11_where_0 rfl rfl ?_
  refine q_getI eX11_where_1 fl_11_103 tR_0 rfl ?_
  exact q_ireturn eX11_where_4 rfl
def fX11_parameters (a1 : Int32) (w : q_W) : Option (Int32 × q_W) :=
  q_b (fX11_isPattern a1 w) fun r1 w2 =>
  if r1 = 0 then
    some ((-1), w2)
  else
    q_lt ((8 * (w2.1 0 18)) + a1) fun y3 =>
    if q_inb y3 16 then
    some ((w2.1 10 (q_ix y3)), w2)
    else none
set_option maxHeartbeats 4000000 in
set_option maxRecDepth 100000 in
theorem kX11_parameters (X : q_X) (l : Launch) (a1 : Int32) (w : q_W) : q_Ct X S_R l mX11_parameters 1 q_tI [.ref 0, .int a1] w (fX11_parameters a1 w) := by
  refine q_intro (lv := [(0, .ref 0), (1, .int a1)]) (by decide +kernel) rfl (Nat.le_of_ble_eq_true rfl) rfl ?_
  refine q_aload_n 0 eX11_parameters_0 rfl rfl ?_
  refine q_iload_n 1 eX11_parameters_1 rfl rfl ?_
  refine q_callVI (As := [.int a1]) (st := []) eX11_parameters_2 cv_11_330 (kX11_isPattern X l a1 w) tR_0 rfl (by decide) rfl rfl (Nat.le_of_ble_eq_true rfl) (by decide) (fun r1 w2 => ?_)
  refine q_if_eq (tgt := 25) eX11_parameters_5 (by decide) (fun _ => ?_) (fun _ => ?_)
  · refine q_iconst eX11_parameters_25 kiconst_m1 ?_
    exact q_ireturn eX11_parameters_26 rfl
  · refine q_aload_n 0 eX11_parameters_8 rfl rfl ?_
    refine q_getG (v := 10) eX11_parameters_9 fl_11_46 tR_0 rfl gR_0_22 ?_
    refine q_bipush eX11_parameters_12 kbipush_8 ?_
    refine q_aload_n 0 eX11_parameters_14 rfl rfl ?_
    refine q_getI eX11_parameters_15 fl_11_206 tR_0 rfl ?_
    refine q_imul eX11_parameters_18 ?_
    refine q_iload_n 1 eX11_parameters_19 rfl rfl ?_
    refine q_iadd eX11_parameters_20 ?_
    refine q_ltI (fun y3 => ?_)
    refine q_iald eX11_parameters_21 tR_10 nR_10 ?_
    refine q_goto (tgt := 26) eX11_parameters_22 (by decide) ?_
    exact q_ireturn eX11_parameters_26 rfl
def fX11_isFact (a1 : Int32) (w : q_W) : Option (Int32 × q_W) :=
  if a1 < 0 then
    some (0, w)
  else
    if (w.1 0 50) ≤ a1 then
      some (0, w)
    else
      some (1, w)
set_option maxHeartbeats 4000000 in
set_option maxRecDepth 100000 in
theorem kX11_isFact (X : q_X) (l : Launch) (a1 : Int32) (w : q_W) : q_Ct X S_R l mX11_isFact 0 q_tI [.ref 0, .int a1] w (fX11_isFact a1 w) := by
  refine q_intro (lv := [(0, .ref 0), (1, .int a1)]) (by decide +kernel) rfl (Nat.le_of_ble_eq_true rfl) rfl ?_
  refine q_iload_n 1 eX11_isFact_0 rfl rfl ?_
  refine q_if_lt (tgt := 16) eX11_isFact_1 (by decide) (fun _ => ?_) (fun _ => ?_)
  · refine q_iconst eX11_isFact_16 kiconst_0 ?_
    exact q_zret eX11_isFact_17 rfl rfl
  · refine q_iload_n 1 eX11_isFact_4 rfl rfl ?_
    refine q_aload_n 0 eX11_isFact_5 rfl rfl ?_
    refine q_getI eX11_isFact_6 fl_11_320 tR_0 rfl ?_
    refine q_icmp_ge (tgt := 16) eX11_isFact_9 (by decide) (fun _ => ?_) (fun _ => ?_)
    · refine q_iconst eX11_isFact_16 kiconst_0 ?_
      exact q_zret eX11_isFact_17 rfl rfl
    · refine q_iconst eX11_isFact_12 kiconst_1 ?_
      refine q_goto (tgt := 17) eX11_isFact_13 (by decide) ?_
      exact q_zret eX11_isFact_17 rfl rfl
def fX11_kind (a1 : Int32) (w : q_W) : Option (Int32 × q_W) :=
  q_b (fX11_isFact a1 w) fun r1 w2 =>
  if r1 = 0 then
    some ((-1), w2)
  else
    if q_inb a1 120 then
    some ((w2.1 27 (q_ix a1)), w2)
    else none
set_option maxHeartbeats 4000000 in
set_option maxRecDepth 100000 in
theorem kX11_kind (X : q_X) (l : Launch) (a1 : Int32) (w : q_W) : q_Ct X S_R l mX11_kind 1 q_tI [.ref 0, .int a1] w (fX11_kind a1 w) := by
  refine q_intro (lv := [(0, .ref 0), (1, .int a1)]) (by decide +kernel) rfl (Nat.le_of_ble_eq_true rfl) rfl ?_
  refine q_aload_n 0 eX11_kind_0 rfl rfl ?_
  refine q_iload_n 1 eX11_kind_1 rfl rfl ?_
  refine q_callVI (As := [.int a1]) (st := []) eX11_kind_2 cv_11_342 (kX11_isFact X l a1 w) tR_0 rfl (by decide) rfl rfl (Nat.le_of_ble_eq_true rfl) (by decide) (fun r1 w2 => ?_)
  refine q_if_eq (tgt := 17) eX11_kind_5 (by decide) (fun _ => ?_) (fun _ => ?_)
  · refine q_iconst eX11_kind_17 kiconst_m1 ?_
    exact q_ireturn eX11_kind_18 rfl
  · refine q_aload_n 0 eX11_kind_8 rfl rfl ?_
    refine q_getG (v := 27) eX11_kind_9 fl_11_97 tR_0 rfl gR_0_51 ?_
    refine q_iload_n 1 eX11_kind_12 rfl rfl ?_
    refine q_iald eX11_kind_13 tR_27 nR_27 ?_
    refine q_goto (tgt := 18) eX11_kind_14 (by decide) ?_
    exact q_ireturn eX11_kind_18 rfl
def fX11_number_n54 (x1 : Int32) (x2 : Int32) (s0 : Int32) (w : q_W) : Option (Int32 × q_W) :=
  if x2 < 0 then
    some ((-1), w)
  else
    if s0 ≤ x2 then
      some ((-1), w)
    else
      q_lt ((6 * x1) + x2) fun y1 =>
      if q_inb y1 720 then
      some ((w.1 28 (q_ix y1)), w)
      else none
set_option maxHeartbeats 4000000 in
set_option maxRecDepth 100000 in
theorem jX11_number_n54 (X : q_X) (l : Launch) (x1 : Int32) (x2 : Int32) (s0 : Int32) (w : q_W) : q_J X S_R l mX11_number 1 q_tI 54 [(0, .ref 0), (1, .int x1), (2, .int x2)] [.int s0] w (fX11_number_n54 x1 x2 s0 w) := by
  refine q_istore_n (lv' := [(3, .int s0), (0, .ref 0), (1, .int x1), (2, .int x2)]) eX11_number_54 rfl (by decide) rfl ?_
  refine q_iload_n 3 eX11_number_55 rfl rfl ?_
  refine q_if_lt (tgt := 78) eX11_number_56 (by decide) (fun _ => ?_) (fun _ => ?_)
  · refine q_iconst eX11_number_78 kiconst_m1 ?_
    exact q_ireturn eX11_number_79 rfl
  · refine q_iload_n 3 eX11_number_59 rfl rfl ?_
    refine q_iload_n 0 eX11_number_60 rfl rfl ?_
    refine q_icmp_ge (tgt := 78) eX11_number_61 (by decide) (fun _ => ?_) (fun _ => ?_)
    · refine q_iconst eX11_number_78 kiconst_m1 ?_
      exact q_ireturn eX11_number_79 rfl
    · refine q_aload_n 1 eX11_number_64 rfl rfl ?_
      refine q_getG (v := 28) eX11_number_65 fl_11_100 tR_0 rfl gR_0_52 ?_
      refine q_bipush eX11_number_68 kbipush_6 ?_
      refine q_iload_n 2 eX11_number_70 rfl rfl ?_
      refine q_imul eX11_number_71 ?_
      refine q_iload_n 3 eX11_number_72 rfl rfl ?_
      refine q_iadd eX11_number_73 ?_
      refine q_ltI (fun y1 => ?_)
      refine q_iald eX11_number_74 tR_28 nR_28 ?_
      refine q_goto (tgt := 79) eX11_number_75 (by decide) ?_
      exact q_ireturn eX11_number_79 rfl
def fX11_number (a1 : Int32) (a2 : Int32) (w : q_W) : Option (Int32 × q_W) :=
  q_b (fX11_isFact a1 w) fun r1 w2 =>
  if r1 = 0 then
    some ((-1), w2)
  else
    if q_inb a1 120 then
    if 2 ≤ (w2.1 27 (q_ix a1)) then
      if q_inb a1 120 then
      if (w2.1 27 (q_ix a1)) = 2 then
        fX11_number_n54 a1 a2 6 w2
      else
        if q_inb a1 120 then
        if (w2.1 27 (q_ix a1)) = 3 then
          fX11_number_n54 a1 a2 3 w2
        else
          fX11_number_n54 a1 a2 1 w2
        else none
      else none
    else
      fX11_number_n54 a1 a2 4 w2
    else none
set_option maxHeartbeats 4000000 in
set_option maxRecDepth 100000 in
theorem kX11_number (X : q_X) (l : Launch) (a1 : Int32) (a2 : Int32) (w : q_W) : q_Ct X S_R l mX11_number 1 q_tI [.ref 0, .int a1, .int a2] w (fX11_number a1 a2 w) := by
  refine q_intro (lv := [(0, .ref 0), (1, .int a1), (2, .int a2)]) (by decide +kernel) rfl (Nat.le_of_ble_eq_true rfl) rfl ?_
  refine q_aload_n 0 eX11_number_0 rfl rfl ?_
  refine q_iload_n 1 eX11_number_1 rfl rfl ?_
  refine q_callVI (As := [.int a1]) (st := []) eX11_number_2 cv_11_342 (kX11_isFact X l a1 w) tR_0 rfl (by decide) rfl rfl (Nat.le_of_ble_eq_true rfl) (by decide) (fun r1 w2 => ?_)
  refine q_if_ne (tgt := 10) eX11_number_5 (by decide) (fun _ => ?_) (fun _ => ?_)
  · refine q_iconst eX11_number_8 kiconst_m1 ?_
    exact q_ireturn eX11_number_9 rfl
  · refine q_aload_n 0 eX11_number_10 rfl rfl ?_
    refine q_getG (v := 27) eX11_number_11 fl_11_97 tR_0 rfl gR_0_51 ?_
    refine q_iload_n 1 eX11_number_14 rfl rfl ?_
    refine q_iald eX11_number_15 tR_27 nR_27 ?_
    refine q_iconst eX11_number_16 kiconst_2 ?_
    refine q_icmp_ge (tgt := 24) eX11_number_17 (by decide) (fun _ => ?_) (fun _ => ?_)
    · refine q_aload_n 0 eX11_number_24 rfl rfl ?_
      refine q_getG (v := 27) eX11_number_25 fl_11_97 tR_0 rfl gR_0_51 ?_
      refine q_iload_n 1 eX11_number_28 rfl rfl ?_
      refine q_iald eX11_number_29 tR_27 nR_27 ?_
      refine q_iconst eX11_number_30 kiconst_2 ?_
      refine q_icmp_ne (tgt := 39) eX11_number_31 (by decide) (fun _ => ?_) (fun _ => ?_)
      · refine q_bipush eX11_number_34 kbipush_6 ?_
        refine q_goto (tgt := 54) eX11_number_36 (by decide) ?_
        exact q_sub [0, 1, 2] rfl (jX11_number_n54 X l a1 a2 6 w2)
      · refine q_aload_n 0 eX11_number_39 rfl rfl ?_
        refine q_getG (v := 27) eX11_number_40 fl_11_97 tR_0 rfl gR_0_51 ?_
        refine q_iload_n 1 eX11_number_43 rfl rfl ?_
        refine q_iald eX11_number_44 tR_27 nR_27 ?_
        refine q_iconst eX11_number_45 kiconst_3 ?_
        refine q_icmp_ne (tgt := 53) eX11_number_46 (by decide) (fun _ => ?_) (fun _ => ?_)
        · refine q_iconst eX11_number_49 kiconst_3 ?_
          refine q_goto (tgt := 54) eX11_number_50 (by decide) ?_
          exact q_sub [0, 1, 2] rfl (jX11_number_n54 X l a1 a2 3 w2)
        · refine q_iconst eX11_number_53 kiconst_1 ?_
          exact q_sub [0, 1, 2] rfl (jX11_number_n54 X l a1 a2 1 w2)
    · refine q_iconst eX11_number_20 kiconst_4 ?_
      refine q_goto (tgt := 54) eX11_number_21 (by decide) ?_
      exact q_sub [0, 1, 2] rfl (jX11_number_n54 X l a1 a2 4 w2)
def fX11_isKnown (a1 : Int32) (w : q_W) : Option (Int32 × q_W) :=
  if a1 < 0 then
    some (0, w)
  else
    if (w.1 0 50) < a1 then
      some (0, w)
    else
      some (1, w)
set_option maxHeartbeats 4000000 in
set_option maxRecDepth 100000 in
theorem kX11_isKnown (X : q_X) (l : Launch) (a1 : Int32) (w : q_W) : q_Ct X S_R l mX11_isKnown 0 q_tI [.ref 0, .int a1] w (fX11_isKnown a1 w) := by
  refine q_intro (lv := [(0, .ref 0), (1, .int a1)]) (by decide +kernel) rfl (Nat.le_of_ble_eq_true rfl) rfl ?_
  refine q_iload_n 1 eX11_isKnown_0 rfl rfl ?_
  refine q_if_lt (tgt := 16) eX11_isKnown_1 (by decide) (fun _ => ?_) (fun _ => ?_)
  · refine q_iconst eX11_isKnown_16 kiconst_0 ?_
    exact q_zret eX11_isKnown_17 rfl rfl
  · refine q_iload_n 1 eX11_isKnown_4 rfl rfl ?_
    refine q_aload_n 0 eX11_isKnown_5 rfl rfl ?_
    refine q_getI eX11_isKnown_6 fl_11_320 tR_0 rfl ?_
    refine q_icmp_gt (tgt := 16) eX11_isKnown_9 (by decide) (fun _ => ?_) (fun _ => ?_)
    · refine q_iconst eX11_isKnown_16 kiconst_0 ?_
      exact q_zret eX11_isKnown_17 rfl rfl
    · refine q_iconst eX11_isKnown_12 kiconst_1 ?_
      refine q_goto (tgt := 17) eX11_isKnown_13 (by decide) ?_
      exact q_zret eX11_isKnown_17 rfl rfl
def fX11_isStruck_n34 (rec4 : Int32 → Int32 → Int32 → q_W → Option (Int32 × q_W)) (x1 : Int32) (x2 : Int32) (x3 : Int32) (w : q_W) : Option (Int32 × q_W) :=
  q_lt (x3 + 1) fun y1 =>
  rec4 x1 x2 y1 w
set_option maxHeartbeats 4000000 in
set_option maxRecDepth 100000 in
theorem jX11_isStruck_n34 (X : q_X) (l : Launch) (rec4 : Int32 → Int32 → Int32 → q_W → Option (Int32 × q_W)) (hr4 : ∀ x1 x2 x3 w, q_J X S_R l mX11_isStruck 0 q_tI 4 [(0, .ref 0), (1, .int x1), (2, .int x2), (3, .int x3)] [] w (rec4 x1 x2 x3 w)) (x1 : Int32) (x2 : Int32) (x3 : Int32) (w : q_W) : q_J X S_R l mX11_isStruck 0 q_tI 34 [(0, .ref 0), (1, .int x1), (2, .int x2), (3, .int x3)] [] w (fX11_isStruck_n34 rec4 x1 x2 x3 w) := by
  refine q_ltE (fun y1 hy1 => ?_)
  refine q_iinc (v := y1) (lv' := [(3, .int y1), (0, .ref 0), (1, .int x1), (2, .int x2)]) 3 eX11_isStruck_34 rfl hy1 (by decide) rfl ?_
  refine q_goto (tgt := 4) eX11_isStruck_37 (by decide) ?_
  exact q_sub [1, 2, 3, 0] rfl (hr4 x1 x2 y1 w)
def fX11_isStruck_h4 (rec4 : Int32 → Int32 → Int32 → q_W → Option (Int32 × q_W)) (x1 : Int32) (x2 : Int32) (x3 : Int32) (w : q_W) : Option (Int32 × q_W) :=
  if x2 ≤ x3 then
    some (0, w)
  else
    if q_inb x3 120 then
    if (w.1 27 (q_ix x3)) = 5 then
      q_lt (6 * x3) fun y1 =>
      if q_inb y1 720 then
      if (w.1 28 (q_ix y1)) = x1 then
        some (1, w)
      else
        fX11_isStruck_n34 rec4 x1 x2 x3 w
      else none
    else
      fX11_isStruck_n34 rec4 x1 x2 x3 w
    else none
def fX11_isStruck_l4 : Int32 → Int32 → Int32 → q_W → Option (Int32 × q_W) := q_it q_N (fX11_isStruck_h4) (fun _ _ _ _ => none)
set_option maxHeartbeats 4000000 in
set_option maxRecDepth 100000 in
theorem jX11_isStruck_h4 (X : q_X) (l : Launch) (rec4 : Int32 → Int32 → Int32 → q_W → Option (Int32 × q_W)) (hr4 : ∀ x1 x2 x3 w, q_J X S_R l mX11_isStruck 0 q_tI 4 [(0, .ref 0), (1, .int x1), (2, .int x2), (3, .int x3)] [] w (rec4 x1 x2 x3 w)) : ∀ x1 x2 x3 w, q_J X S_R l mX11_isStruck 0 q_tI 4 [(0, .ref 0), (1, .int x1), (2, .int x2), (3, .int x3)] [] w (fX11_isStruck_h4 rec4 x1 x2 x3 w) := by
  intro x1 x2 x3 w
  refine q_iload_n 3 eX11_isStruck_4 rfl rfl ?_
  refine q_iload_n 2 eX11_isStruck_5 rfl rfl ?_
  refine q_icmp_ge (tgt := 40) eX11_isStruck_6 (by decide) (fun _ => ?_) (fun _ => ?_)
  · refine q_iconst eX11_isStruck_40 kiconst_0 ?_
    exact q_zret eX11_isStruck_41 rfl rfl
  · refine q_aload_n 0 eX11_isStruck_9 rfl rfl ?_
    refine q_getG (v := 27) eX11_isStruck_10 fl_11_97 tR_0 rfl gR_0_51 ?_
    refine q_iload_n 3 eX11_isStruck_13 rfl rfl ?_
    refine q_iald eX11_isStruck_14 tR_27 nR_27 ?_
    refine q_iconst eX11_isStruck_15 kiconst_5 ?_
    refine q_icmp_ne (tgt := 34) eX11_isStruck_16 (by decide) (fun _ => ?_) (fun _ => ?_)
    · refine q_aload_n 0 eX11_isStruck_19 rfl rfl ?_
      refine q_getG (v := 28) eX11_isStruck_20 fl_11_100 tR_0 rfl gR_0_52 ?_
      refine q_bipush eX11_isStruck_23 kbipush_6 ?_
      refine q_iload_n 3 eX11_isStruck_25 rfl rfl ?_
      refine q_imul eX11_isStruck_26 ?_
      refine q_ltI (fun y1 => ?_)
      refine q_iald eX11_isStruck_27 tR_28 nR_28 ?_
      refine q_iload_n 1 eX11_isStruck_28 rfl rfl ?_
      refine q_icmp_ne (tgt := 34) eX11_isStruck_29 (by decide) (fun _ => ?_) (fun _ => ?_)
      · refine q_iconst eX11_isStruck_32 kiconst_1 ?_
        exact q_zret eX11_isStruck_33 rfl rfl
      · exact q_sub [0, 1, 2, 3] rfl (jX11_isStruck_n34 X l rec4 hr4 x1 x2 x3 w)
    · exact q_sub [0, 1, 2, 3] rfl (jX11_isStruck_n34 X l rec4 hr4 x1 x2 x3 w)
set_option maxHeartbeats 4000000 in
set_option maxRecDepth 100000 in
theorem jX11_isStruck_l4 (X : q_X) (l : Launch) : ∀ x1 x2 x3 w, q_J X S_R l mX11_isStruck 0 q_tI 4 [(0, .ref 0), (1, .int x1), (2, .int x2), (3, .int x3)] [] w (fX11_isStruck_l4 x1 x2 x3 w) := by
  exact q_it_ind (fun rc => ∀ x1 x2 x3 w, q_J X S_R l mX11_isStruck 0 q_tI 4 [(0, .ref 0), (1, .int x1), (2, .int x2), (3, .int x3)] [] w (rc x1 x2 x3 w)) _ _ (fun _ _ _ _ => q_none) (fun rc hrc => jX11_isStruck_h4 X l rc hrc) q_N
def fX11_isStruck (a1 : Int32) (a2 : Int32) (w : q_W) : Option (Int32 × q_W) :=
  q_lt (a1 + 1) fun y1 =>
  fX11_isStruck_l4 a1 a2 y1 w
set_option maxHeartbeats 4000000 in
set_option maxRecDepth 100000 in
theorem kX11_isStruck (X : q_X) (l : Launch) (a1 : Int32) (a2 : Int32) (w : q_W) : q_Ct X S_R l mX11_isStruck 0 q_tI [.ref 0, .int a1, .int a2] w (fX11_isStruck a1 a2 w) := by
  refine q_intro (lv := [(0, .ref 0), (1, .int a1), (2, .int a2)]) (by decide +kernel) rfl (Nat.le_of_ble_eq_true rfl) rfl ?_
  refine q_iload_n 1 eX11_isStruck_0 rfl rfl ?_
  refine q_iconst eX11_isStruck_1 kiconst_1 ?_
  refine q_iadd eX11_isStruck_2 ?_
  refine q_ltI (fun y1 => ?_)
  refine q_istore_n (lv' := [(3, .int y1), (0, .ref 0), (1, .int a1), (2, .int a2)]) eX11_isStruck_3 rfl (by decide) rfl ?_
  exact q_sub [1, 2, 3, 0] rfl (jX11_isStruck_l4 X l a1 a2 y1 w)
def fX11_struck (a1 : Int32) (a2 : Int32) (w : q_W) : Option (Int32 × q_W) :=
  q_b (fX11_isKnown a2 w) fun r1 w2 =>
  if r1 = 0 then
    some ((-1), w2)
  else
    if a1 < 0 then
      some ((-1), w2)
    else
      if a1 < a2 then
        q_b (fX11_isStruck a1 a2 w2) fun r3 w4 =>
        if r3 = 0 then
          some (0, w4)
        else
          some (1, w4)
      else
        some ((-1), w2)
set_option maxHeartbeats 4000000 in
set_option maxRecDepth 100000 in
theorem kX11_struck (X : q_X) (l : Launch) (a1 : Int32) (a2 : Int32) (w : q_W) : q_Ct X S_R l mX11_struck 1 q_tI [.ref 0, .int a1, .int a2] w (fX11_struck a1 a2 w) := by
  refine q_intro (lv := [(0, .ref 0), (1, .int a1), (2, .int a2)]) (by decide +kernel) rfl (Nat.le_of_ble_eq_true rfl) rfl ?_
  refine q_aload_n 0 eX11_struck_0 rfl rfl ?_
  refine q_iload_n 2 eX11_struck_1 rfl rfl ?_
  refine q_callVI (As := [.int a2]) (st := []) eX11_struck_2 cv_11_345 (kX11_isKnown X l a2 w) tR_0 rfl (by decide) rfl rfl (Nat.le_of_ble_eq_true rfl) (by decide) (fun r1 w2 => ?_)
  refine q_if_eq (tgt := 17) eX11_struck_5 (by decide) (fun _ => ?_) (fun _ => ?_)
  · refine q_iconst eX11_struck_17 kiconst_m1 ?_
    exact q_ireturn eX11_struck_18 rfl
  · refine q_iload_n 1 eX11_struck_8 rfl rfl ?_
    refine q_if_lt (tgt := 17) eX11_struck_9 (by decide) (fun _ => ?_) (fun _ => ?_)
    · refine q_iconst eX11_struck_17 kiconst_m1 ?_
      exact q_ireturn eX11_struck_18 rfl
    · refine q_iload_n 1 eX11_struck_12 rfl rfl ?_
      refine q_iload_n 2 eX11_struck_13 rfl rfl ?_
      refine q_icmp_lt (tgt := 19) eX11_struck_14 (by decide) (fun _ => ?_) (fun _ => ?_)
      · refine q_aload_n 0 eX11_struck_19 rfl rfl ?_
        refine q_iload_n 1 eX11_struck_20 rfl rfl ?_
        refine q_iload_n 2 eX11_struck_21 rfl rfl ?_
        refine q_callVI (As := [.int a1, .int a2]) (st := []) eX11_struck_22 cv_11_348 (kX11_isStruck X l a1 a2 w2) tR_0 rfl (by decide) rfl rfl (Nat.le_of_ble_eq_true rfl) (by decide) (fun r3 w4 => ?_)
        refine q_if_eq (tgt := 32) eX11_struck_25 (by decide) (fun _ => ?_) (fun _ => ?_)
        · refine q_iconst eX11_struck_32 kiconst_0 ?_
          exact q_ireturn eX11_struck_33 rfl
        · refine q_iconst eX11_struck_28 kiconst_1 ?_
          refine q_goto (tgt := 33) eX11_struck_29 (by decide) ?_
          exact q_ireturn eX11_struck_33 rfl
      · refine q_iconst eX11_struck_17 kiconst_m1 ?_
        exact q_ireturn eX11_struck_18 rfl
def fX11_floats_n199 (x2 : Int32) (s0 : Int32) (w : q_W) : Option (Int32 × q_W) :=
  q_lt (q_sI w 0 56 s0) fun w1 =>
  if x2 = (-1) then
    some (1, w1)
  else
    some (0, w1)
set_option maxHeartbeats 4000000 in
set_option maxRecDepth 100000 in
theorem jX11_floats_n199 (X : q_X) (l : Launch) (x2 : Int32) (s0 : Int32) (w : q_W) : q_J X S_R l mX11_floats 1 q_tI 199 [(2, .int x2)] [.int s0, .ref 0] w (fX11_floats_n199 x2 s0 w) := by
  refine q_putI eX11_floats_199 fp_11_358 tR_0 rfl ⟨rfl, rfl⟩ ?_
  refine q_ltW (fun w1 => ?_)
  refine q_iload_n 0 eX11_floats_202 rfl rfl ?_
  refine q_iconst eX11_floats_203 kiconst_m1 ?_
  refine q_icmp_ne (tgt := 211) eX11_floats_204 (by decide) (fun _ => ?_) (fun _ => ?_)
  · refine q_iconst eX11_floats_207 kiconst_1 ?_
    refine q_goto (tgt := 212) eX11_floats_208 (by decide) ?_
    exact q_zret eX11_floats_212 rfl rfl
  · refine q_iconst eX11_floats_211 kiconst_0 ?_
    exact q_zret eX11_floats_212 rfl rfl
def fX11_floats_n180 (rec10 : Int32 → Int32 → Int32 → Int32 → q_W → Option (Int32 × q_W)) (x1 : Int32) (x2 : Int32) (x3 : Int32) (x4 : Int32) (w : q_W) : Option (Int32 × q_W) :=
  q_lt (x4 + 1) fun y1 =>
  rec10 x1 x2 x3 y1 w
set_option maxHeartbeats 4000000 in
set_option maxRecDepth 100000 in
theorem jX11_floats_n180 (X : q_X) (l : Launch) (rec10 : Int32 → Int32 → Int32 → Int32 → q_W → Option (Int32 × q_W)) (hr10 : ∀ x1 x2 x3 x4 w, q_J X S_R l mX11_floats 1 q_tI 10 [(0, .ref 0), (1, .int x1), (2, .int x2), (3, .int x3), (4, .int x4)] [] w (rec10 x1 x2 x3 x4 w)) (x1 : Int32) (x2 : Int32) (x3 : Int32) (x4 : Int32) (w : q_W) : q_J X S_R l mX11_floats 1 q_tI 180 [(0, .ref 0), (1, .int x1), (2, .int x2), (3, .int x3), (4, .int x4)] [] w (fX11_floats_n180 rec10 x1 x2 x3 x4 w) := by
  refine q_ltE (fun y1 hy1 => ?_)
  refine q_iinc (v := y1) (lv' := [(4, .int y1), (0, .ref 0), (1, .int x1), (2, .int x2), (3, .int x3)]) 4 eX11_floats_180 rfl hy1 (by decide) rfl ?_
  refine q_goto (tgt := 10) eX11_floats_183 (by decide) ?_
  exact q_sub [1, 2, 3, 4, 0] rfl (hr10 x1 x2 x3 y1 w)
def fX11_floats_h129 (rec10 : Int32 → Int32 → Int32 → Int32 → q_W → Option (Int32 × q_W)) (rec129 : Int32 → Int32 → Int32 → Int32 → Int32 → q_W → Option (Int32 × q_W)) (x1 : Int32) (x2 : Int32) (x3 : Int32) (x4 : Int32) (x5 : Int32) (w : q_W) : Option (Int32 × q_W) :=
  if 6 ≤ x5 then
    q_lt (q_sI w 0 55 ((w.1 0 55) + 1)) fun w1 =>
    fX11_floats_n180 rec10 x1 x2 x3 x4 w1
  else
    q_lt ((6 * x4) + x5) fun y2 =>
    if q_inb y2 720 then
    q_lt ((6 * (w.1 0 55)) + x5) fun y3 =>
    if q_inb y3 720 then
    q_lt (q_sI w 30 (q_ix y3) (w.1 28 (q_ix y2))) fun w4 =>
    q_lt (x5 + 1) fun y5 =>
    rec129 x1 x2 x3 x4 y5 w4
    else none
    else none
def fX11_floats_l129 (rec10 : Int32 → Int32 → Int32 → Int32 → q_W → Option (Int32 × q_W)) : Int32 → Int32 → Int32 → Int32 → Int32 → q_W → Option (Int32 × q_W) := q_it q_N (fX11_floats_h129 rec10) (fun _ _ _ _ _ _ => none)
set_option maxHeartbeats 4000000 in
set_option maxRecDepth 100000 in
theorem jX11_floats_h129 (X : q_X) (l : Launch) (rec10 : Int32 → Int32 → Int32 → Int32 → q_W → Option (Int32 × q_W)) (hr10 : ∀ x1 x2 x3 x4 w, q_J X S_R l mX11_floats 1 q_tI 10 [(0, .ref 0), (1, .int x1), (2, .int x2), (3, .int x3), (4, .int x4)] [] w (rec10 x1 x2 x3 x4 w)) (rec129 : Int32 → Int32 → Int32 → Int32 → Int32 → q_W → Option (Int32 × q_W)) (hr129 : ∀ x1 x2 x3 x4 x5 w, q_J X S_R l mX11_floats 1 q_tI 129 [(0, .ref 0), (1, .int x1), (2, .int x2), (3, .int x3), (4, .int x4), (5, .int x5)] [] w (rec129 x1 x2 x3 x4 x5 w)) : ∀ x1 x2 x3 x4 x5 w, q_J X S_R l mX11_floats 1 q_tI 129 [(0, .ref 0), (1, .int x1), (2, .int x2), (3, .int x3), (4, .int x4), (5, .int x5)] [] w (fX11_floats_h129 rec10 rec129 x1 x2 x3 x4 x5 w) := by
  intro x1 x2 x3 x4 x5 w
  refine q_iload 5 eX11_floats_129 rfl ?_
  refine q_bipush eX11_floats_131 kbipush_6 ?_
  refine q_icmp_ge (tgt := 170) eX11_floats_133 (by decide) (fun _ => ?_) (fun _ => ?_)
  · refine q_aload_n 0 eX11_floats_170 rfl rfl ?_
    refine q_dup eX11_floats_171 rfl ?_
    refine q_getI eX11_floats_172 fl_11_352 tR_0 rfl ?_
    refine q_iconst eX11_floats_175 kiconst_1 ?_
    refine q_iadd eX11_floats_176 ?_
    refine q_putI eX11_floats_177 fp_11_352 tR_0 rfl ⟨rfl, rfl⟩ ?_
    refine q_ltW (fun w1 => ?_)
    exact q_sub [0, 1, 2, 3, 4] rfl (jX11_floats_n180 X l rec10 hr10 x1 x2 x3 x4 w1)
  · refine q_aload_n 0 eX11_floats_136 rfl rfl ?_
    refine q_getG (v := 30) eX11_floats_137 fl_11_109 tR_0 rfl gR_0_58 ?_
    refine q_bipush eX11_floats_140 kbipush_6 ?_
    refine q_aload_n 0 eX11_floats_142 rfl rfl ?_
    refine q_getI eX11_floats_143 fl_11_352 tR_0 rfl ?_
    refine q_imul eX11_floats_146 ?_
    refine q_iload 5 eX11_floats_147 rfl ?_
    refine q_iadd eX11_floats_149 ?_
    refine q_aload_n 0 eX11_floats_150 rfl rfl ?_
    refine q_getG (v := 28) eX11_floats_151 fl_11_100 tR_0 rfl gR_0_52 ?_
    refine q_bipush eX11_floats_154 kbipush_6 ?_
    refine q_iload 4 eX11_floats_156 rfl ?_
    refine q_imul eX11_floats_158 ?_
    refine q_iload 5 eX11_floats_159 rfl ?_
    refine q_iadd eX11_floats_161 ?_
    refine q_ltI (fun y2 => ?_)
    refine q_iald eX11_floats_162 tR_28 nR_28 ?_
    refine q_ltI1 (fun y3 => ?_)
    refine q_iast eX11_floats_163 tR_30 nR_30 ?_
    refine q_ltW (fun w4 => ?_)
    refine q_ltE (fun y5 hy5 => ?_)
    refine q_iinc (v := y5) (lv' := [(5, .int y5), (0, .ref 0), (1, .int x1), (2, .int x2), (3, .int x3), (4, .int x4)]) 5 eX11_floats_164 rfl hy5 (by decide) rfl ?_
    refine q_goto (tgt := 129) eX11_floats_167 (by decide) ?_
    exact q_sub [1, 2, 3, 4, 5, 0] rfl (hr129 x1 x2 x3 x4 y5 w4)
set_option maxHeartbeats 4000000 in
set_option maxRecDepth 100000 in
theorem jX11_floats_l129 (X : q_X) (l : Launch) (rec10 : Int32 → Int32 → Int32 → Int32 → q_W → Option (Int32 × q_W)) (hr10 : ∀ x1 x2 x3 x4 w, q_J X S_R l mX11_floats 1 q_tI 10 [(0, .ref 0), (1, .int x1), (2, .int x2), (3, .int x3), (4, .int x4)] [] w (rec10 x1 x2 x3 x4 w)) : ∀ x1 x2 x3 x4 x5 w, q_J X S_R l mX11_floats 1 q_tI 129 [(0, .ref 0), (1, .int x1), (2, .int x2), (3, .int x3), (4, .int x4), (5, .int x5)] [] w (fX11_floats_l129 rec10 x1 x2 x3 x4 x5 w) := by
  exact q_it_ind (fun rc => ∀ x1 x2 x3 x4 x5 w, q_J X S_R l mX11_floats 1 q_tI 129 [(0, .ref 0), (1, .int x1), (2, .int x2), (3, .int x3), (4, .int x4), (5, .int x5)] [] w (rc x1 x2 x3 x4 x5 w)) _ _ (fun _ _ _ _ _ _ => q_none) (fun rc hrc => jX11_floats_h129 X l rec10 hr10 rc hrc) q_N
def fX11_floats_h10 (rec10 : Int32 → Int32 → Int32 → Int32 → q_W → Option (Int32 × q_W)) (x1 : Int32) (x2 : Int32) (x3 : Int32) (x4 : Int32) (w : q_W) : Option (Int32 × q_W) :=
  if x1 ≤ x4 then
    if x3 ≤ 9 then
      fX11_floats_n199 x2 x3 w
    else
      fX11_floats_n199 x2 9 w
  else
    if q_inb x4 120 then
    if (w.1 27 (q_ix x4)) = 5 then
      fX11_floats_n180 rec10 x1 x2 x3 x4 w
    else
      q_b (fX11_isStruck x4 x1 w) fun r1 w2 =>
      if r1 = 0 then
        if q_inb x4 120 then
        if (w2.1 27 (q_ix x4)) = 4 then
          if x3 = x2 then
            q_lt (6 * x4) fun y3 =>
            if q_inb y3 720 then
            q_lt (q_sI w2 0 60 (w2.1 28 (q_ix y3))) fun w4 =>
            if x3 ≤ 9 then
              q_lt (q_sI w4 0 56 x3) fun w5 =>
              some (1, w5)
            else
              q_lt (q_sI w4 0 56 9) fun w6 =>
              some (1, w6)
            else none
          else
            q_lt (x3 + 1) fun y7 =>
            q_lt (q_sI w2 0 55 0) fun w8 =>
            fX11_floats_n180 rec10 x1 x2 y7 x4 w8
        else
          if q_inb x4 120 then
          q_lt (w2.1 0 55) fun y9 =>
          if q_inb y9 120 then
          q_lt (q_sI w2 29 (q_ix y9) (w2.1 27 (q_ix x4))) fun w10 =>
          q_lt (w10.1 0 55) fun y11 =>
          if q_inb y11 120 then
          q_lt (q_sI w10 31 (q_ix y11) x4) fun w12 =>
          fX11_floats_l129 rec10 x1 x2 x3 x4 0 w12
          else none
          else none
          else none
        else none
      else
        fX11_floats_n180 rec10 x1 x2 x3 x4 w2
    else none
def fX11_floats_l10 : Int32 → Int32 → Int32 → Int32 → q_W → Option (Int32 × q_W) := q_it q_N (fX11_floats_h10) (fun _ _ _ _ _ => none)
set_option maxHeartbeats 4000000 in
set_option maxRecDepth 100000 in
theorem jX11_floats_h10 (X : q_X) (l : Launch) (rec10 : Int32 → Int32 → Int32 → Int32 → q_W → Option (Int32 × q_W)) (hr10 : ∀ x1 x2 x3 x4 w, q_J X S_R l mX11_floats 1 q_tI 10 [(0, .ref 0), (1, .int x1), (2, .int x2), (3, .int x3), (4, .int x4)] [] w (rec10 x1 x2 x3 x4 w)) : ∀ x1 x2 x3 x4 w, q_J X S_R l mX11_floats 1 q_tI 10 [(0, .ref 0), (1, .int x1), (2, .int x2), (3, .int x3), (4, .int x4)] [] w (fX11_floats_h10 rec10 x1 x2 x3 x4 w) := by
  intro x1 x2 x3 x4 w
  refine q_iload 4 eX11_floats_10 rfl ?_
  refine q_iload_n 1 eX11_floats_12 rfl rfl ?_
  refine q_icmp_ge (tgt := 186) eX11_floats_13 (by decide) (fun _ => ?_) (fun _ => ?_)
  · refine q_aload_n 0 eX11_floats_186 rfl rfl ?_
    refine q_iload_n 3 eX11_floats_187 rfl rfl ?_
    refine q_bipush eX11_floats_188 kbipush_9 ?_
    refine q_icmp_le (tgt := 198) eX11_floats_190 (by decide) (fun _ => ?_) (fun _ => ?_)
    · refine q_iload_n 3 eX11_floats_198 rfl rfl ?_
      exact q_sub [2] rfl (jX11_floats_n199 X l x2 x3 w)
    · refine q_bipush eX11_floats_193 kbipush_9 ?_
      refine q_goto (tgt := 199) eX11_floats_195 (by decide) ?_
      exact q_sub [2] rfl (jX11_floats_n199 X l x2 9 w)
  · refine q_aload_n 0 eX11_floats_16 rfl rfl ?_
    refine q_getG (v := 27) eX11_floats_17 fl_11_97 tR_0 rfl gR_0_51 ?_
    refine q_iload 4 eX11_floats_20 rfl ?_
    refine q_iald eX11_floats_22 tR_27 nR_27 ?_
    refine q_iconst eX11_floats_23 kiconst_5 ?_
    refine q_icmp_eq (tgt := 180) eX11_floats_24 (by decide) (fun _ => ?_) (fun _ => ?_)
    · exact q_sub [0, 1, 2, 3, 4] rfl (jX11_floats_n180 X l rec10 hr10 x1 x2 x3 x4 w)
    · refine q_aload_n 0 eX11_floats_27 rfl rfl ?_
      refine q_iload 4 eX11_floats_28 rfl ?_
      refine q_iload_n 1 eX11_floats_30 rfl rfl ?_
      refine q_callVI (As := [.int x4, .int x1]) (st := []) eX11_floats_31 cv_11_348 (kX11_isStruck X l x4 x1 w) tR_0 rfl (by decide) rfl rfl (Nat.le_of_ble_eq_true rfl) (by decide) (fun r1 w2 => ?_)
      refine q_if_eq (tgt := 40) eX11_floats_34 (by decide) (fun _ => ?_) (fun _ => ?_)
      · refine q_aload_n 0 eX11_floats_40 rfl rfl ?_
        refine q_getG (v := 27) eX11_floats_41 fl_11_97 tR_0 rfl gR_0_51 ?_
        refine q_iload 4 eX11_floats_44 rfl ?_
        refine q_iald eX11_floats_46 tR_27 nR_27 ?_
        refine q_iconst eX11_floats_47 kiconst_4 ?_
        refine q_icmp_ne (tgt := 99) eX11_floats_48 (by decide) (fun _ => ?_) (fun _ => ?_)
        · refine q_iload_n 3 eX11_floats_51 rfl rfl ?_
          refine q_iload_n 2 eX11_floats_52 rfl rfl ?_
          refine q_icmp_ne (tgt := 88) eX11_floats_53 (by decide) (fun _ => ?_) (fun _ => ?_)
          · refine q_aload_n 0 eX11_floats_56 rfl rfl ?_
            refine q_aload_n 0 eX11_floats_57 rfl rfl ?_
            refine q_getG (v := 28) eX11_floats_58 fl_11_100 tR_0 rfl gR_0_52 ?_
            refine q_bipush eX11_floats_61 kbipush_6 ?_
            refine q_iload 4 eX11_floats_63 rfl ?_
            refine q_imul eX11_floats_65 ?_
            refine q_ltI (fun y3 => ?_)
            refine q_iald eX11_floats_66 tR_28 nR_28 ?_
            refine q_putI eX11_floats_67 fp_11_355 tR_0 rfl ⟨rfl, rfl⟩ ?_
            refine q_ltW (fun w4 => ?_)
            refine q_aload_n 0 eX11_floats_70 rfl rfl ?_
            refine q_iload_n 3 eX11_floats_71 rfl rfl ?_
            refine q_bipush eX11_floats_72 kbipush_9 ?_
            refine q_icmp_le (tgt := 82) eX11_floats_74 (by decide) (fun _ => ?_) (fun _ => ?_)
            · refine q_iload_n 3 eX11_floats_82 rfl rfl ?_
              refine q_putI eX11_floats_83 fp_11_358 tR_0 rfl ⟨rfl, rfl⟩ ?_
              refine q_ltW (fun w5 => ?_)
              refine q_iconst eX11_floats_86 kiconst_1 ?_
              exact q_zret eX11_floats_87 rfl rfl
            · refine q_bipush eX11_floats_77 kbipush_9 ?_
              refine q_goto (tgt := 83) eX11_floats_79 (by decide) ?_
              refine q_putI eX11_floats_83 fp_11_358 tR_0 rfl ⟨rfl, rfl⟩ ?_
              refine q_ltW (fun w6 => ?_)
              refine q_iconst eX11_floats_86 kiconst_1 ?_
              exact q_zret eX11_floats_87 rfl rfl
          · refine q_ltE (fun y7 hy7 => ?_)
            refine q_iinc (v := y7) (lv' := [(3, .int y7), (0, .ref 0), (1, .int x1), (2, .int x2), (4, .int x4)]) 3 eX11_floats_88 rfl hy7 (by decide) rfl ?_
            refine q_aload_n 1 eX11_floats_91 rfl rfl ?_
            refine q_iconst eX11_floats_92 kiconst_0 ?_
            refine q_putI eX11_floats_93 fp_11_352 tR_0 rfl ⟨rfl, rfl⟩ ?_
            refine q_ltW (fun w8 => ?_)
            refine q_goto (tgt := 180) eX11_floats_96 (by decide) ?_
            exact q_sub [1, 2, 3, 0, 4] rfl (jX11_floats_n180 X l rec10 hr10 x1 x2 y7 x4 w8)
        · refine q_aload_n 0 eX11_floats_99 rfl rfl ?_
          refine q_getG (v := 29) eX11_floats_100 fl_11_106 tR_0 rfl gR_0_57 ?_
          refine q_aload_n 0 eX11_floats_103 rfl rfl ?_
          refine q_getI eX11_floats_104 fl_11_352 tR_0 rfl ?_
          refine q_aload_n 0 eX11_floats_107 rfl rfl ?_
          refine q_getG (v := 27) eX11_floats_108 fl_11_97 tR_0 rfl gR_0_51 ?_
          refine q_iload 4 eX11_floats_111 rfl ?_
          refine q_iald eX11_floats_113 tR_27 nR_27 ?_
          refine q_ltI1 (fun y9 => ?_)
          refine q_iast eX11_floats_114 tR_29 nR_29 ?_
          refine q_ltW (fun w10 => ?_)
          refine q_aload_n 0 eX11_floats_115 rfl rfl ?_
          refine q_getG (v := 31) eX11_floats_116 fl_11_112 tR_0 rfl gR_0_59 ?_
          refine q_aload_n 0 eX11_floats_119 rfl rfl ?_
          refine q_getI eX11_floats_120 fl_11_352 tR_0 rfl ?_
          refine q_iload 4 eX11_floats_123 rfl ?_
          refine q_ltI1 (fun y11 => ?_)
          refine q_iast eX11_floats_125 tR_31 nR_31 ?_
          refine q_ltW (fun w12 => ?_)
          refine q_iconst eX11_floats_126 kiconst_0 ?_
          refine q_istore (lv' := [(5, .int 0), (0, .ref 0), (1, .int x1), (2, .int x2), (3, .int x3), (4, .int x4)]) eX11_floats_127 (by decide) rfl ?_
          exact q_sub [1, 2, 3, 4, 5, 0] rfl (jX11_floats_l129 X l rec10 hr10 x1 x2 x3 x4 0 w12)
      · refine q_goto (tgt := 180) eX11_floats_37 (by decide) ?_
        exact q_sub [0, 1, 2, 3, 4] rfl (jX11_floats_n180 X l rec10 hr10 x1 x2 x3 x4 w2)
set_option maxHeartbeats 4000000 in
set_option maxRecDepth 100000 in
theorem jX11_floats_l10 (X : q_X) (l : Launch) : ∀ x1 x2 x3 x4 w, q_J X S_R l mX11_floats 1 q_tI 10 [(0, .ref 0), (1, .int x1), (2, .int x2), (3, .int x3), (4, .int x4)] [] w (fX11_floats_l10 x1 x2 x3 x4 w) := by
  exact q_it_ind (fun rc => ∀ x1 x2 x3 x4 w, q_J X S_R l mX11_floats 1 q_tI 10 [(0, .ref 0), (1, .int x1), (2, .int x2), (3, .int x3), (4, .int x4)] [] w (rc x1 x2 x3 x4 w)) _ _ (fun _ _ _ _ _ => q_none) (fun rc hrc => jX11_floats_h10 X l rc hrc) q_N
def fX11_floats (a1 : Int32) (a2 : Int32) (w : q_W) : Option (Int32 × q_W) :=
  q_lt (q_sI w 0 55 0) fun w1 =>
  fX11_floats_l10 a1 a2 0 0 w1
set_option maxHeartbeats 4000000 in
set_option maxRecDepth 100000 in
theorem kX11_floats (X : q_X) (l : Launch) (a1 : Int32) (a2 : Int32) (w : q_W) : q_Ct X S_R l mX11_floats 1 q_tI [.ref 0, .int a1, .int a2] w (fX11_floats a1 a2 w) := by
  refine q_intro (lv := [(0, .ref 0), (1, .int a1), (2, .int a2)]) (by decide +kernel) rfl (Nat.le_of_ble_eq_true rfl) rfl ?_
  refine q_iconst eX11_floats_0 kiconst_0 ?_
  refine q_istore_n (lv' := [(3, .int 0), (0, .ref 0), (1, .int a1), (2, .int a2)]) eX11_floats_1 rfl (by decide) rfl ?_
  refine q_aload_n 1 eX11_floats_2 rfl rfl ?_
  refine q_iconst eX11_floats_3 kiconst_0 ?_
  refine q_putI eX11_floats_4 fp_11_352 tR_0 rfl ⟨rfl, rfl⟩ ?_
  refine q_ltW (fun w1 => ?_)
  refine q_iconst eX11_floats_7 kiconst_0 ?_
  refine q_istore (lv' := [(4, .int 0), (3, .int 0), (0, .ref 0), (1, .int a1), (2, .int a2)]) eX11_floats_8 (by decide) rfl ?_
  exact q_sub [2, 3, 4, 1, 0] rfl (jX11_floats_l10 X l a1 a2 0 0 w1)
def fX11_root_n35 (rec6 : Int32 → Int32 → Int32 → q_W → Option (Int32 × q_W)) (x0 : Int32) (x1 : Int32) (x2 : Int32) (w : q_W) : Option (Int32 × q_W) :=
  rec6 x0 x1 x2 w
set_option maxHeartbeats 4000000 in
set_option maxRecDepth 100000 in
theorem jX11_root_n35 (X : q_X) (l : Launch) (rec6 : Int32 → Int32 → Int32 → q_W → Option (Int32 × q_W)) (hr6 : ∀ x0 x1 x2 w, q_J X S_R l mX11_root 0 q_tI 6 [(0, .int x0), (1, .int x1), (2, .int x2)] [] w (rec6 x0 x1 x2 w)) (x0 : Int32) (x1 : Int32) (x2 : Int32) (w : q_W) : q_J X S_R l mX11_root 0 q_tI 35 [(0, .int x0), (1, .int x1), (2, .int x2)] [] w (fX11_root_n35 rec6 x0 x1 x2 w) := by
  refine q_goto (tgt := 6) eX11_root_35 (by decide) ?_
  exact q_sub [0, 1, 2] rfl (hr6 x0 x1 x2 w)
def fX11_root_h6 (rec6 : Int32 → Int32 → Int32 → q_W → Option (Int32 × q_W)) (x0 : Int32) (x1 : Int32) (x2 : Int32) (w : q_W) : Option (Int32 × q_W) :=
  if x2 ≤ x1 then
    some (x1, w)
  else
    q_lt (((x1 + x2) + 1) / 2) fun y1 =>
    if x0 < (y1 * y1) then
      q_lt (y1 - 1) fun y2 =>
      fX11_root_n35 rec6 x0 x1 y2 w
    else
      fX11_root_n35 rec6 x0 y1 x2 w
def fX11_root_l6 : Int32 → Int32 → Int32 → q_W → Option (Int32 × q_W) := q_it q_N (fX11_root_h6) (fun _ _ _ _ => none)
set_option maxHeartbeats 4000000 in
set_option maxRecDepth 100000 in
theorem jX11_root_h6 (X : q_X) (l : Launch) (rec6 : Int32 → Int32 → Int32 → q_W → Option (Int32 × q_W)) (hr6 : ∀ x0 x1 x2 w, q_J X S_R l mX11_root 0 q_tI 6 [(0, .int x0), (1, .int x1), (2, .int x2)] [] w (rec6 x0 x1 x2 w)) : ∀ x0 x1 x2 w, q_J X S_R l mX11_root 0 q_tI 6 [(0, .int x0), (1, .int x1), (2, .int x2)] [] w (fX11_root_h6 rec6 x0 x1 x2 w) := by
  intro x0 x1 x2 w
  refine q_iload_n 1 eX11_root_6 rfl rfl ?_
  refine q_iload_n 2 eX11_root_7 rfl rfl ?_
  refine q_icmp_ge (tgt := 38) eX11_root_8 (by decide) (fun _ => ?_) (fun _ => ?_)
  · refine q_iload_n 1 eX11_root_38 rfl rfl ?_
    exact q_ireturn eX11_root_39 rfl
  · refine q_iload_n 1 eX11_root_11 rfl rfl ?_
    refine q_iload_n 2 eX11_root_12 rfl rfl ?_
    refine q_iadd eX11_root_13 ?_
    refine q_iconst eX11_root_14 kiconst_1 ?_
    refine q_iadd eX11_root_15 ?_
    refine q_iconst eX11_root_16 kiconst_2 ?_
    refine q_idivc eX11_root_17 (by decide) ?_
    refine q_ltI (fun y1 => ?_)
    refine q_istore_n (lv' := [(3, .int y1), (0, .int x0), (1, .int x1), (2, .int x2)]) eX11_root_18 rfl (by decide) rfl ?_
    refine q_iload_n 0 eX11_root_19 rfl rfl ?_
    refine q_iload_n 0 eX11_root_20 rfl rfl ?_
    refine q_imul eX11_root_21 ?_
    refine q_iload_n 1 eX11_root_22 rfl rfl ?_
    refine q_icmp_gt (tgt := 31) eX11_root_23 (by decide) (fun _ => ?_) (fun _ => ?_)
    · refine q_iload_n 0 eX11_root_31 rfl rfl ?_
      refine q_iconst eX11_root_32 kiconst_1 ?_
      refine q_isub eX11_root_33 ?_
      refine q_ltI (fun y2 => ?_)
      refine q_istore_n (lv' := [(2, .int y2), (3, .int y1), (0, .int x0), (1, .int x1)]) eX11_root_34 rfl (by decide) rfl ?_
      exact q_sub [2, 3, 0] rfl (jX11_root_n35 X l rec6 hr6 x0 x1 y2 w)
    · refine q_iload_n 0 eX11_root_26 rfl rfl ?_
      refine q_istore_n (lv' := [(1, .int y1), (3, .int y1), (0, .int x0), (2, .int x2)]) eX11_root_27 rfl (by decide) rfl ?_
      refine q_goto (tgt := 35) eX11_root_28 (by decide) ?_
      exact q_sub [2, 0, 3] rfl (jX11_root_n35 X l rec6 hr6 x0 y1 x2 w)
set_option maxHeartbeats 4000000 in
set_option maxRecDepth 100000 in
theorem jX11_root_l6 (X : q_X) (l : Launch) : ∀ x0 x1 x2 w, q_J X S_R l mX11_root 0 q_tI 6 [(0, .int x0), (1, .int x1), (2, .int x2)] [] w (fX11_root_l6 x0 x1 x2 w) := by
  exact q_it_ind (fun rc => ∀ x0 x1 x2 w, q_J X S_R l mX11_root 0 q_tI 6 [(0, .int x0), (1, .int x1), (2, .int x2)] [] w (rc x0 x1 x2 w)) _ _ (fun _ _ _ _ => q_none) (fun rc hrc => jX11_root_h6 X l rc hrc) q_N
def fX11_root (a0 : Int32) (w : q_W) : Option (Int32 × q_W) :=
  fX11_root_l6 a0 0 2000 w
set_option maxHeartbeats 4000000 in
set_option maxRecDepth 100000 in
theorem kX11_root (X : q_X) (l : Launch) (a0 : Int32) (w : q_W) : q_Ct X S_R l mX11_root 0 q_tI [.int a0] w (fX11_root a0 w) := by
  refine q_intro (lv := [(0, .int a0)]) (by decide +kernel) rfl (Nat.le_of_ble_eq_true rfl) rfl ?_
  refine q_iconst eX11_root_0 kiconst_0 ?_
  refine q_istore_n (lv' := [(1, .int 0), (0, .int a0)]) eX11_root_1 rfl (by decide) rfl ?_
  refine q_sipush eX11_root_2 ksipush_2000 ?_
  refine q_istore_n (lv' := [(2, .int 2000), (1, .int 0), (0, .int a0)]) eX11_root_5 rfl (by decide) rfl ?_
  exact q_sub [2, 1, 0] rfl (jX11_root_l6 X l a0 0 2000 w)
def fX11_drag_h10 (rec10 : Int32 → Int32 → Int32 → q_W → Option (Int32 × q_W)) (x3 : Int32) (x4 : Int32) (x5 : Int32) (w : q_W) : Option (Int32 × q_W) :=
  if x4 ≤ x5 then
    some (x3, w)
  else
    if 11 ≤ x5 then
      some (x3, w)
    else
      q_lt (x3 / 2) fun y1 =>
      q_lt (x5 + 1) fun y2 =>
      rec10 y1 x4 y2 w
def fX11_drag_l10 : Int32 → Int32 → Int32 → q_W → Option (Int32 × q_W) := q_it q_N (fX11_drag_h10) (fun _ _ _ _ => none)
set_option maxHeartbeats 4000000 in
set_option maxRecDepth 100000 in
theorem jX11_drag_h10 (X : q_X) (l : Launch) (rec10 : Int32 → Int32 → Int32 → q_W → Option (Int32 × q_W)) (hr10 : ∀ x3 x4 x5 w, q_J X S_R l mX11_drag 0 q_tI 10 [(3, .int x3), (4, .int x4), (5, .int x5)] [] w (rec10 x3 x4 x5 w)) : ∀ x3 x4 x5 w, q_J X S_R l mX11_drag 0 q_tI 10 [(3, .int x3), (4, .int x4), (5, .int x5)] [] w (fX11_drag_h10 rec10 x3 x4 x5 w) := by
  intro x3 x4 x5 w
  refine q_iload 2 eX11_drag_10 rfl ?_
  refine q_iload 1 eX11_drag_12 rfl ?_
  refine q_icmp_ge (tgt := 34) eX11_drag_14 (by decide) (fun _ => ?_) (fun _ => ?_)
  · refine q_iload_n 0 eX11_drag_34 rfl rfl ?_
    exact q_ireturn eX11_drag_35 rfl
  · refine q_iload 2 eX11_drag_17 rfl ?_
    refine q_bipush eX11_drag_19 kbipush_11 ?_
    refine q_icmp_ge (tgt := 34) eX11_drag_21 (by decide) (fun _ => ?_) (fun _ => ?_)
    · refine q_iload_n 0 eX11_drag_34 rfl rfl ?_
      exact q_ireturn eX11_drag_35 rfl
    · refine q_iload_n 0 eX11_drag_24 rfl rfl ?_
      refine q_iconst eX11_drag_25 kiconst_2 ?_
      refine q_idivc eX11_drag_26 (by decide) ?_
      refine q_ltI (fun y1 => ?_)
      refine q_istore_n (lv' := [(3, .int y1), (4, .int x4), (5, .int x5)]) eX11_drag_27 rfl (by decide) rfl ?_
      refine q_ltE (fun y2 hy2 => ?_)
      refine q_iinc (v := y2) (lv' := [(5, .int y2), (3, .int y1), (4, .int x4)]) 2 eX11_drag_28 rfl hy2 (by decide) rfl ?_
      refine q_goto (tgt := 10) eX11_drag_31 (by decide) ?_
      exact q_sub [1, 2, 0] rfl (hr10 y1 x4 y2 w)
set_option maxHeartbeats 4000000 in
set_option maxRecDepth 100000 in
theorem jX11_drag_l10 (X : q_X) (l : Launch) : ∀ x3 x4 x5 w, q_J X S_R l mX11_drag 0 q_tI 10 [(3, .int x3), (4, .int x4), (5, .int x5)] [] w (fX11_drag_l10 x3 x4 x5 w) := by
  exact q_it_ind (fun rc => ∀ x3 x4 x5 w, q_J X S_R l mX11_drag 0 q_tI 10 [(3, .int x3), (4, .int x4), (5, .int x5)] [] w (rc x3 x4 x5 w)) _ _ (fun _ _ _ _ => q_none) (fun rc hrc => jX11_drag_h10 X l rc hrc) q_N
def fX11_drag (a0 : Int32) (a1 : Int32) (a2 : Int32) (w : q_W) : Option (Int32 × q_W) :=
  if a1 = 0 then none else
  q_lt (a2 / a1) fun y1 =>
  fX11_drag_l10 a0 y1 0 w
set_option maxHeartbeats 4000000 in
set_option maxRecDepth 100000 in
theorem kX11_drag (X : q_X) (l : Launch) (a0 : Int32) (a1 : Int32) (a2 : Int32) (w : q_W) : q_Ct X S_R l mX11_drag 0 q_tI [.int a0, .int a1, .int a2] w (fX11_drag a0 a1 a2 w) := by
  refine q_intro (lv := [(0, .int a0), (1, .int a1), (2, .int a2)]) (by decide +kernel) rfl (Nat.le_of_ble_eq_true rfl) rfl ?_
  refine q_iload_n 0 eX11_drag_0 rfl rfl ?_
  refine q_istore_n (lv' := [(3, .int a0), (0, .int a0), (1, .int a1), (2, .int a2)]) eX11_drag_1 rfl (by decide) rfl ?_
  refine q_iload_n 3 eX11_drag_2 rfl rfl ?_
  refine q_iload_n 2 eX11_drag_3 rfl rfl ?_
  refine q_idiv eX11_drag_4 ?_
  refine q_ltI (fun y1 => ?_)
  refine q_istore (lv' := [(4, .int y1), (3, .int a0), (0, .int a0), (1, .int a1), (2, .int a2)]) eX11_drag_5 (by decide) rfl ?_
  refine q_iconst eX11_drag_7 kiconst_0 ?_
  refine q_istore (lv' := [(5, .int 0), (4, .int y1), (3, .int a0), (0, .int a0), (1, .int a1), (2, .int a2)]) eX11_drag_8 (by decide) rfl ?_
  exact q_sub [2, 1, 0] rfl (jX11_drag_l10 X l a0 y1 0 w)
def fX11_drags_n204 (rec134 : Int32 → Int32 → Int32 → Int32 → q_W → Option (Int32 × q_W)) (x2 : Int32) (x3 : Int32) (x5 : Int32) (s0 : Int32) (s1 : Int32) (s2 : Int32) (s3 : Int32) (w : q_W) : Option (Int32 × q_W) :=
  q_b (fX11_drag s2 s1 s0 w) fun r1 w2 =>
  q_lt (s3 + r1) fun y3 =>
  q_lt (x5 + 1) fun y4 =>
  rec134 x2 x3 y3 y4 w2
set_option maxHeartbeats 4000000 in
set_option maxRecDepth 100000 in
theorem jX11_drags_n204 (X : q_X) (l : Launch) (rec134 : Int32 → Int32 → Int32 → Int32 → q_W → Option (Int32 × q_W)) (hr134 : ∀ x2 x3 x4 x5 w, q_J X S_R l mX11_drags 1 q_tI 134 [(0, .ref 0), (2, .int x2), (3, .int x3), (4, .int x4), (5, .int x5)] [] w (rec134 x2 x3 x4 x5 w)) (x2 : Int32) (x3 : Int32) (x5 : Int32) (s0 : Int32) (s1 : Int32) (s2 : Int32) (s3 : Int32) (w : q_W) : q_J X S_R l mX11_drags 1 q_tI 204 [(0, .ref 0), (2, .int x2), (3, .int x3), (5, .int x5)] [.int s0, .int s1, .int s2, .int s3] w (fX11_drags_n204 rec134 x2 x3 x5 s0 s1 s2 s3 w) := by
  refine q_callSI (As := [.int s2, .int s1, .int s0]) (st := [.int s3]) eX11_drags_204 cv_11_361 (kX11_drag X l s2 s1 s0 w) rfl rfl (Nat.le_of_ble_eq_true rfl) (by decide) (fun r1 w2 => ?_)
  refine q_iadd eX11_drags_207 ?_
  refine q_ltI (fun y3 => ?_)
  refine q_istore (lv' := [(4, .int y3), (0, .ref 0), (2, .int x2), (3, .int x3), (5, .int x5)]) eX11_drags_208 (by decide) rfl ?_
  refine q_ltE (fun y4 hy4 => ?_)
  refine q_iinc (v := y4) (lv' := [(5, .int y4), (4, .int y3), (0, .ref 0), (2, .int x2), (3, .int x3)]) 4 eX11_drags_210 rfl hy4 (by decide) rfl ?_
  refine q_goto (tgt := 134) eX11_drags_213 (by decide) ?_
  exact q_sub [2, 3, 4, 1, 0] rfl (hr134 x2 x3 y3 y4 w2)
def fX11_drags_h134 (rec134 : Int32 → Int32 → Int32 → Int32 → q_W → Option (Int32 × q_W)) (x2 : Int32) (x3 : Int32) (x4 : Int32) (x5 : Int32) (w : q_W) : Option (Int32 × q_W) :=
  q_lt (x3 + 3) fun y1 =>
  if q_inb y1 720 then
  if (w.1 30 (q_ix y1)) ≤ x5 then
    some (x4, w)
  else
    q_lt (x3 + 1) fun y2 =>
    if q_inb y2 720 then
    q_lt (x3 + 2) fun y3 =>
    if q_inb y3 720 then
    q_lt ((w.1 30 (q_ix y2)) + (x5 * (w.1 30 (q_ix y3)))) fun y4 =>
    q_lt (x3 + 4) fun y5 =>
    if q_inb y5 720 then
    q_lt (x3 + 5) fun y6 =>
    if q_inb y6 720 then
    if x2 ≤ y4 then
      fX11_drags_n204 rec134 x2 x3 x5 (y4 - x2) (w.1 30 (q_ix y6)) (w.1 30 (q_ix y5)) x4 w
    else
      fX11_drags_n204 rec134 x2 x3 x5 (x2 - y4) (w.1 30 (q_ix y6)) (w.1 30 (q_ix y5)) x4 w
    else none
    else none
    else none
    else none
  else none
def fX11_drags_l134 : Int32 → Int32 → Int32 → Int32 → q_W → Option (Int32 × q_W) := q_it q_N (fX11_drags_h134) (fun _ _ _ _ _ => none)
set_option maxHeartbeats 4000000 in
set_option maxRecDepth 100000 in
theorem jX11_drags_h134 (X : q_X) (l : Launch) (rec134 : Int32 → Int32 → Int32 → Int32 → q_W → Option (Int32 × q_W)) (hr134 : ∀ x2 x3 x4 x5 w, q_J X S_R l mX11_drags 1 q_tI 134 [(0, .ref 0), (2, .int x2), (3, .int x3), (4, .int x4), (5, .int x5)] [] w (rec134 x2 x3 x4 x5 w)) : ∀ x2 x3 x4 x5 w, q_J X S_R l mX11_drags 1 q_tI 134 [(0, .ref 0), (2, .int x2), (3, .int x3), (4, .int x4), (5, .int x5)] [] w (fX11_drags_h134 rec134 x2 x3 x4 x5 w) := by
  intro x2 x3 x4 x5 w
  refine q_iload 4 eX11_drags_134 rfl ?_
  refine q_aload_n 0 eX11_drags_136 rfl rfl ?_
  refine q_getG (v := 30) eX11_drags_137 fl_11_109 tR_0 rfl gR_0_58 ?_
  refine q_iload_n 2 eX11_drags_140 rfl rfl ?_
  refine q_iconst eX11_drags_141 kiconst_3 ?_
  refine q_iadd eX11_drags_142 ?_
  refine q_ltI (fun y1 => ?_)
  refine q_iald eX11_drags_143 tR_30 nR_30 ?_
  refine q_icmp_ge (tgt := 216) eX11_drags_144 (by decide) (fun _ => ?_) (fun _ => ?_)
  · refine q_iload 3 eX11_drags_216 rfl ?_
    exact q_ireturn eX11_drags_218 rfl
  · refine q_aload_n 0 eX11_drags_147 rfl rfl ?_
    refine q_getG (v := 30) eX11_drags_148 fl_11_109 tR_0 rfl gR_0_58 ?_
    refine q_iload_n 2 eX11_drags_151 rfl rfl ?_
    refine q_iconst eX11_drags_152 kiconst_1 ?_
    refine q_iadd eX11_drags_153 ?_
    refine q_ltI (fun y2 => ?_)
    refine q_iald eX11_drags_154 tR_30 nR_30 ?_
    refine q_iload 4 eX11_drags_155 rfl ?_
    refine q_aload_n 0 eX11_drags_157 rfl rfl ?_
    refine q_getG (v := 30) eX11_drags_158 fl_11_109 tR_0 rfl gR_0_58 ?_
    refine q_iload_n 2 eX11_drags_161 rfl rfl ?_
    refine q_iconst eX11_drags_162 kiconst_2 ?_
    refine q_iadd eX11_drags_163 ?_
    refine q_ltI (fun y3 => ?_)
    refine q_iald eX11_drags_164 tR_30 nR_30 ?_
    refine q_imul eX11_drags_165 ?_
    refine q_iadd eX11_drags_166 ?_
    refine q_ltI (fun y4 => ?_)
    refine q_istore (lv' := [(6, .int y4), (0, .ref 0), (2, .int x2), (3, .int x3), (4, .int x4), (5, .int x5)]) eX11_drags_167 (by decide) rfl ?_
    refine q_iload 4 eX11_drags_169 rfl ?_
    refine q_aload_n 1 eX11_drags_171 rfl rfl ?_
    refine q_getG (v := 30) eX11_drags_172 fl_11_109 tR_0 rfl gR_0_58 ?_
    refine q_iload_n 3 eX11_drags_175 rfl rfl ?_
    refine q_iconst eX11_drags_176 kiconst_4 ?_
    refine q_iadd eX11_drags_177 ?_
    refine q_ltI (fun y5 => ?_)
    refine q_iald eX11_drags_178 tR_30 nR_30 ?_
    refine q_aload_n 1 eX11_drags_179 rfl rfl ?_
    refine q_getG (v := 30) eX11_drags_180 fl_11_109 tR_0 rfl gR_0_58 ?_
    refine q_iload_n 3 eX11_drags_183 rfl rfl ?_
    refine q_iconst eX11_drags_184 kiconst_5 ?_
    refine q_iadd eX11_drags_185 ?_
    refine q_ltI (fun y6 => ?_)
    refine q_iald eX11_drags_186 tR_30 nR_30 ?_
    refine q_iload_n 2 eX11_drags_187 rfl rfl ?_
    refine q_iload 0 eX11_drags_188 rfl ?_
    refine q_icmp_le (tgt := 200) eX11_drags_190 (by decide) (fun _ => ?_) (fun _ => ?_)
    · refine q_iload 0 eX11_drags_200 rfl ?_
      refine q_iload_n 2 eX11_drags_202 rfl rfl ?_
      refine q_isub eX11_drags_203 ?_
      exact q_sub [1, 2, 3, 5] rfl (jX11_drags_n204 X l rec134 hr134 x2 x3 x5 (y4 - x2) (w.1 30 (q_ix y6)) (w.1 30 (q_ix y5)) x4 w)
    · refine q_iload_n 2 eX11_drags_193 rfl rfl ?_
      refine q_iload 0 eX11_drags_194 rfl ?_
      refine q_isub eX11_drags_196 ?_
      refine q_goto (tgt := 204) eX11_drags_197 (by decide) ?_
      exact q_sub [1, 2, 3, 5] rfl (jX11_drags_n204 X l rec134 hr134 x2 x3 x5 (x2 - y4) (w.1 30 (q_ix y6)) (w.1 30 (q_ix y5)) x4 w)
set_option maxHeartbeats 4000000 in
set_option maxRecDepth 100000 in
theorem jX11_drags_l134 (X : q_X) (l : Launch) : ∀ x2 x3 x4 x5 w, q_J X S_R l mX11_drags 1 q_tI 134 [(0, .ref 0), (2, .int x2), (3, .int x3), (4, .int x4), (5, .int x5)] [] w (fX11_drags_l134 x2 x3 x4 x5 w) := by
  exact q_it_ind (fun rc => ∀ x2 x3 x4 x5 w, q_J X S_R l mX11_drags 1 q_tI 134 [(0, .ref 0), (2, .int x2), (3, .int x3), (4, .int x4), (5, .int x5)] [] w (rc x2 x3 x4 x5 w)) _ _ (fun _ _ _ _ _ => q_none) (fun rc hrc => jX11_drags_h134 X l rc hrc) q_N
def fX11_drags_n124 (s0 : Int32) (s1 : Int32) (s2 : Int32) (w : q_W) : Option (Int32 × q_W) :=
  q_b (fX11_drag s2 s1 s0 w) fun r1 w2 =>
  some (r1, w2)
set_option maxHeartbeats 4000000 in
set_option maxRecDepth 100000 in
theorem jX11_drags_n124 (X : q_X) (l : Launch) (s0 : Int32) (s1 : Int32) (s2 : Int32) (w : q_W) : q_J X S_R l mX11_drags 1 q_tI 124 [] [.int s0, .int s1, .int s2] w (fX11_drags_n124 s0 s1 s2 w) := by
  refine q_callSI (As := [.int s2, .int s1, .int s0]) (st := []) eX11_drags_124 cv_11_361 (kX11_drag X l s2 s1 s0 w) rfl rfl (Nat.le_of_ble_eq_true rfl) (by decide) (fun r1 w2 => ?_)
  exact q_ireturn eX11_drags_127 rfl
def fX11_drags_n48 (x3 : Int32) (x4 : Int32) (x5 : Int32) (w : q_W) : Option (Int32 × q_W) :=
  q_lt (x3 + 2) fun y1 =>
  if q_inb y1 720 then
  if x4 = 0 then none else
  some ((((w.1 30 (q_ix y1)) * x5) / x4), w)
  else none
set_option maxHeartbeats 4000000 in
set_option maxRecDepth 100000 in
theorem jX11_drags_n48 (X : q_X) (l : Launch) (x3 : Int32) (x4 : Int32) (x5 : Int32) (w : q_W) : q_J X S_R l mX11_drags 1 q_tI 48 [(0, .ref 0), (3, .int x3), (4, .int x4), (5, .int x5)] [] w (fX11_drags_n48 x3 x4 x5 w) := by
  refine q_aload_n 0 eX11_drags_48 rfl rfl ?_
  refine q_getG (v := 30) eX11_drags_49 fl_11_109 tR_0 rfl gR_0_58 ?_
  refine q_iload_n 1 eX11_drags_52 rfl rfl ?_
  refine q_iconst eX11_drags_53 kiconst_2 ?_
  refine q_iadd eX11_drags_54 ?_
  refine q_ltI (fun y1 => ?_)
  refine q_iald eX11_drags_55 tR_30 nR_30 ?_
  refine q_iload 3 eX11_drags_56 rfl ?_
  refine q_imul eX11_drags_58 ?_
  refine q_iload 2 eX11_drags_59 rfl ?_
  refine q_idiv eX11_drags_61 ?_
  exact q_ireturn eX11_drags_62 rfl
def fX11_drags (a1 : Int32) (a2 : Int32) (w : q_W) : Option (Int32 × q_W) :=
  q_lt (6 * a1) fun y1 =>
  if q_inb a1 120 then
  if (w.1 29 (q_ix a1)) = 3 then
    q_lt (y1 + 1) fun y2 =>
    if q_inb y2 720 then
    q_lt (w.1 30 (q_ix y2)) fun y3 =>
    if y3 = 0 then none else
    q_lt (a2 - a2 / y3 * y3) fun y4 =>
    if y4 ≤ (y3 - y4) then
      fX11_drags_n48 y1 y3 y4 w
    else
      q_lt (y3 - y4) fun y5 =>
      fX11_drags_n48 y1 y3 y5 w
    else none
  else
    if q_inb a1 120 then
    if (w.1 29 (q_ix a1)) = 1 then
      q_lt (y1 + 2) fun y6 =>
      if q_inb y6 720 then
      q_lt (y1 + 3) fun y7 =>
      if q_inb y7 720 then
      q_lt (y1 + 1) fun y8 =>
      if q_inb y8 720 then
      if a2 ≤ (w.1 30 (q_ix y8)) then
        q_lt (y1 + 1) fun y9 =>
        if q_inb y9 720 then
        fX11_drags_n124 ((w.1 30 (q_ix y9)) - a2) (w.1 30 (q_ix y7)) (w.1 30 (q_ix y6)) w
        else none
      else
        q_lt (y1 + 1) fun y10 =>
        if q_inb y10 720 then
        fX11_drags_n124 (a2 - (w.1 30 (q_ix y10))) (w.1 30 (q_ix y7)) (w.1 30 (q_ix y6)) w
        else none
      else none
      else none
      else none
    else
      fX11_drags_l134 a2 y1 0 0 w
    else none
  else none
set_option maxHeartbeats 4000000 in
set_option maxRecDepth 100000 in
theorem kX11_drags (X : q_X) (l : Launch) (a1 : Int32) (a2 : Int32) (w : q_W) : q_Ct X S_R l mX11_drags 1 q_tI [.ref 0, .int a1, .int a2] w (fX11_drags a1 a2 w) := by
  refine q_intro (lv := [(0, .ref 0), (1, .int a1), (2, .int a2)]) (by decide +kernel) rfl (Nat.le_of_ble_eq_true rfl) rfl ?_
  refine q_bipush eX11_drags_0 kbipush_6 ?_
  refine q_iload_n 1 eX11_drags_2 rfl rfl ?_
  refine q_imul eX11_drags_3 ?_
  refine q_ltI (fun y1 => ?_)
  refine q_istore_n (lv' := [(3, .int y1), (0, .ref 0), (1, .int a1), (2, .int a2)]) eX11_drags_4 rfl (by decide) rfl ?_
  refine q_aload_n 1 eX11_drags_5 rfl rfl ?_
  refine q_getG (v := 29) eX11_drags_6 fl_11_106 tR_0 rfl gR_0_57 ?_
  refine q_iload_n 2 eX11_drags_9 rfl rfl ?_
  refine q_iald eX11_drags_10 tR_29 nR_29 ?_
  refine q_iconst eX11_drags_11 kiconst_3 ?_
  refine q_icmp_ne (tgt := 63) eX11_drags_12 (by decide) (fun _ => ?_) (fun _ => ?_)
  · refine q_aload_n 1 eX11_drags_15 rfl rfl ?_
    refine q_getG (v := 30) eX11_drags_16 fl_11_109 tR_0 rfl gR_0_58 ?_
    refine q_iload_n 0 eX11_drags_19 rfl rfl ?_
    refine q_iconst eX11_drags_20 kiconst_1 ?_
    refine q_iadd eX11_drags_21 ?_
    refine q_ltI (fun y2 => ?_)
    refine q_iald eX11_drags_22 tR_30 nR_30 ?_
    refine q_ltI (fun y3 => ?_)
    refine q_istore (lv' := [(4, .int y3), (3, .int y1), (0, .ref 0), (1, .int a1), (2, .int a2)]) eX11_drags_23 (by decide) rfl ?_
    refine q_iload_n 4 eX11_drags_25 rfl rfl ?_
    refine q_iload 0 eX11_drags_26 rfl ?_
    refine q_irem eX11_drags_28 ?_
    refine q_ltI (fun y4 => ?_)
    refine q_istore (lv' := [(5, .int y4), (4, .int y3), (3, .int y1), (0, .ref 0), (1, .int a1), (2, .int a2)]) eX11_drags_29 (by decide) rfl ?_
    refine q_iload 1 eX11_drags_31 rfl ?_
    refine q_iload 0 eX11_drags_33 rfl ?_
    refine q_isub eX11_drags_35 ?_
    refine q_iload 0 eX11_drags_36 rfl ?_
    refine q_icmp_ge (tgt := 48) eX11_drags_38 (by decide) (fun _ => ?_) (fun _ => ?_)
    · exact q_sub [3, 2, 1, 0] rfl (jX11_drags_n48 X l y1 y3 y4 w)
    · refine q_iload 1 eX11_drags_41 rfl ?_
      refine q_iload 0 eX11_drags_43 rfl ?_
      refine q_isub eX11_drags_45 ?_
      refine q_ltI (fun y5 => ?_)
      refine q_istore (lv' := [(5, .int y5), (4, .int y3), (3, .int y1), (0, .ref 0), (1, .int a1), (2, .int a2)]) eX11_drags_46 (by decide) rfl ?_
      exact q_sub [3, 2, 1, 0] rfl (jX11_drags_n48 X l y1 y3 y5 w)
  · refine q_aload_n 1 eX11_drags_63 rfl rfl ?_
    refine q_getG (v := 29) eX11_drags_64 fl_11_106 tR_0 rfl gR_0_57 ?_
    refine q_iload_n 2 eX11_drags_67 rfl rfl ?_
    refine q_iald eX11_drags_68 tR_29 nR_29 ?_
    refine q_iconst eX11_drags_69 kiconst_1 ?_
    refine q_icmp_ne (tgt := 128) eX11_drags_70 (by decide) (fun _ => ?_) (fun _ => ?_)
    · refine q_aload_n 1 eX11_drags_73 rfl rfl ?_
      refine q_getG (v := 30) eX11_drags_74 fl_11_109 tR_0 rfl gR_0_58 ?_
      refine q_iload_n 0 eX11_drags_77 rfl rfl ?_
      refine q_iconst eX11_drags_78 kiconst_2 ?_
      refine q_iadd eX11_drags_79 ?_
      refine q_ltI (fun y6 => ?_)
      refine q_iald eX11_drags_80 tR_30 nR_30 ?_
      refine q_aload_n 1 eX11_drags_81 rfl rfl ?_
      refine q_getG (v := 30) eX11_drags_82 fl_11_109 tR_0 rfl gR_0_58 ?_
      refine q_iload_n 0 eX11_drags_85 rfl rfl ?_
      refine q_iconst eX11_drags_86 kiconst_3 ?_
      refine q_iadd eX11_drags_87 ?_
      refine q_ltI (fun y7 => ?_)
      refine q_iald eX11_drags_88 tR_30 nR_30 ?_
      refine q_iload_n 3 eX11_drags_89 rfl rfl ?_
      refine q_aload_n 1 eX11_drags_90 rfl rfl ?_
      refine q_getG (v := 30) eX11_drags_91 fl_11_109 tR_0 rfl gR_0_58 ?_
      refine q_iload_n 0 eX11_drags_94 rfl rfl ?_
      refine q_iconst eX11_drags_95 kiconst_1 ?_
      refine q_iadd eX11_drags_96 ?_
      refine q_ltI (fun y8 => ?_)
      refine q_iald eX11_drags_97 tR_30 nR_30 ?_
      refine q_icmp_le (tgt := 114) eX11_drags_98 (by decide) (fun _ => ?_) (fun _ => ?_)
      · refine q_aload_n 1 eX11_drags_114 rfl rfl ?_
        refine q_getG (v := 30) eX11_drags_115 fl_11_109 tR_0 rfl gR_0_58 ?_
        refine q_iload_n 0 eX11_drags_118 rfl rfl ?_
        refine q_iconst eX11_drags_119 kiconst_1 ?_
        refine q_iadd eX11_drags_120 ?_
        refine q_ltI (fun y9 => ?_)
        refine q_iald eX11_drags_121 tR_30 nR_30 ?_
        refine q_iload_n 3 eX11_drags_122 rfl rfl ?_
        refine q_isub eX11_drags_123 ?_
        exact q_sub [] rfl (jX11_drags_n124 X l ((w.1 30 (q_ix y9)) - a2) (w.1 30 (q_ix y7)) (w.1 30 (q_ix y6)) w)
      · refine q_iload_n 3 eX11_drags_101 rfl rfl ?_
        refine q_aload_n 1 eX11_drags_102 rfl rfl ?_
        refine q_getG (v := 30) eX11_drags_103 fl_11_109 tR_0 rfl gR_0_58 ?_
        refine q_iload_n 0 eX11_drags_106 rfl rfl ?_
        refine q_iconst eX11_drags_107 kiconst_1 ?_
        refine q_iadd eX11_drags_108 ?_
        refine q_ltI (fun y10 => ?_)
        refine q_iald eX11_drags_109 tR_30 nR_30 ?_
        refine q_isub eX11_drags_110 ?_
        refine q_goto (tgt := 124) eX11_drags_111 (by decide) ?_
        exact q_sub [] rfl (jX11_drags_n124 X l (a2 - (w.1 30 (q_ix y10))) (w.1 30 (q_ix y7)) (w.1 30 (q_ix y6)) w)
    · refine q_iconst eX11_drags_128 kiconst_0 ?_
      refine q_istore (lv' := [(4, .int 0), (3, .int y1), (0, .ref 0), (1, .int a1), (2, .int a2)]) eX11_drags_129 (by decide) rfl ?_
      refine q_iconst eX11_drags_131 kiconst_0 ?_
      refine q_istore (lv' := [(5, .int 0), (4, .int 0), (3, .int y1), (0, .ref 0), (1, .int a1), (2, .int a2)]) eX11_drags_132 (by decide) rfl ?_
      exact q_sub [3, 5, 2, 1, 0] rfl (jX11_drags_l134 X l a2 y1 0 0 w)
def fX11_isPoint (a0 : Int32) (a1 : Int32) (w : q_W) : Option (Int32 × q_W) :=
  if a0 < 0 then
    some (0, w)
  else
    if 1024 ≤ a0 then
      some (0, w)
    else
      if a1 < 0 then
        some (0, w)
      else
        if 1024 ≤ a1 then
          some (0, w)
        else
          some (1, w)
set_option maxHeartbeats 4000000 in
set_option maxRecDepth 100000 in
theorem kX11_isPoint (X : q_X) (l : Launch) (a0 : Int32) (a1 : Int32) (w : q_W) : q_Ct X S_R l mX11_isPoint 0 q_tI [.int a0, .int a1] w (fX11_isPoint a0 a1 w) := by
  refine q_intro (lv := [(0, .int a0), (1, .int a1)]) (by decide +kernel) rfl (Nat.le_of_ble_eq_true rfl) rfl ?_
  refine q_iload_n 0 eX11_isPoint_0 rfl rfl ?_
  refine q_if_lt (tgt := 26) eX11_isPoint_1 (by decide) (fun _ => ?_) (fun _ => ?_)
  · refine q_iconst eX11_isPoint_26 kiconst_0 ?_
    exact q_zret eX11_isPoint_27 rfl rfl
  · refine q_iload_n 0 eX11_isPoint_4 rfl rfl ?_
    refine q_sipush eX11_isPoint_5 ksipush_1024 ?_
    refine q_icmp_ge (tgt := 26) eX11_isPoint_8 (by decide) (fun _ => ?_) (fun _ => ?_)
    · refine q_iconst eX11_isPoint_26 kiconst_0 ?_
      exact q_zret eX11_isPoint_27 rfl rfl
    · refine q_iload_n 1 eX11_isPoint_11 rfl rfl ?_
      refine q_if_lt (tgt := 26) eX11_isPoint_12 (by decide) (fun _ => ?_) (fun _ => ?_)
      · refine q_iconst eX11_isPoint_26 kiconst_0 ?_
        exact q_zret eX11_isPoint_27 rfl rfl
      · refine q_iload_n 1 eX11_isPoint_15 rfl rfl ?_
        refine q_sipush eX11_isPoint_16 ksipush_1024 ?_
        refine q_icmp_ge (tgt := 26) eX11_isPoint_19 (by decide) (fun _ => ?_) (fun _ => ?_)
        · refine q_iconst eX11_isPoint_26 kiconst_0 ?_
          exact q_zret eX11_isPoint_27 rfl rfl
        · refine q_iconst eX11_isPoint_22 kiconst_1 ?_
          refine q_goto (tgt := 27) eX11_isPoint_23 (by decide) ?_
          exact q_zret eX11_isPoint_27 rfl rfl
def fX11_radius (a1 : Int32) (w : q_W) : Option (Int32 × q_W) :=
  q_lt ((6 * a1) + 2) fun y1 =>
  if q_inb y1 720 then
  q_lt (((w.1 30 (q_ix y1)) * (10 - (w.1 0 56))) / 10) fun y2 =>
  if 1 ≤ y2 then
    some (y2, w)
  else
    some (1, w)
  else none
set_option maxHeartbeats 4000000 in
set_option maxRecDepth 100000 in
theorem kX11_radius (X : q_X) (l : Launch) (a1 : Int32) (w : q_W) : q_Ct X S_R l mX11_radius 0 q_tI [.ref 0, .int a1] w (fX11_radius a1 w) := by
  refine q_intro (lv := [(0, .ref 0), (1, .int a1)]) (by decide +kernel) rfl (Nat.le_of_ble_eq_true rfl) rfl ?_
  refine q_aload_n 0 eX11_radius_0 rfl rfl ?_
  refine q_getG (v := 30) eX11_radius_1 fl_11_109 tR_0 rfl gR_0_58 ?_
  refine q_bipush eX11_radius_4 kbipush_6 ?_
  refine q_iload_n 1 eX11_radius_6 rfl rfl ?_
  refine q_imul eX11_radius_7 ?_
  refine q_iconst eX11_radius_8 kiconst_2 ?_
  refine q_iadd eX11_radius_9 ?_
  refine q_ltI (fun y1 => ?_)
  refine q_iald eX11_radius_10 tR_30 nR_30 ?_
  refine q_bipush eX11_radius_11 kbipush_10 ?_
  refine q_aload_n 0 eX11_radius_13 rfl rfl ?_
  refine q_getI eX11_radius_14 fl_11_358 tR_0 rfl ?_
  refine q_isub eX11_radius_17 ?_
  refine q_imul eX11_radius_18 ?_
  refine q_bipush eX11_radius_19 kbipush_10 ?_
  refine q_idivc eX11_radius_21 (by decide) ?_
  refine q_ltI (fun y2 => ?_)
  refine q_istore_n (lv' := [(2, .int y2), (0, .ref 0), (1, .int a1)]) eX11_radius_22 rfl (by decide) rfl ?_
  refine q_iload_n 0 eX11_radius_23 rfl rfl ?_
  refine q_iconst eX11_radius_24 kiconst_1 ?_
  refine q_icmp_ge (tgt := 32) eX11_radius_25 (by decide) (fun _ => ?_) (fun _ => ?_)
  · refine q_iload_n 0 eX11_radius_32 rfl rfl ?_
    exact q_ireturn eX11_radius_33 rfl
  · refine q_iconst eX11_radius_28 kiconst_1 ?_
    refine q_goto (tgt := 33) eX11_radius_29 (by decide) ?_
    exact q_ireturn eX11_radius_33 rfl
def fX11_backs_n187 (w : q_W) : Option (Int32 × q_W) :=
  q_b (fX11_isPoint (w.1 0 61) (w.1 0 62) w) fun r1 w2 =>
  if r1 = 0 then
    some (2, w2)
  else
    some (0, w2)
set_option maxHeartbeats 4000000 in
set_option maxRecDepth 100000 in
theorem jX11_backs_n187 (X : q_X) (l : Launch) (w : q_W) : q_J X S_R l mX11_backs 2 q_tI 187 [(0, .ref 0)] [] w (fX11_backs_n187 w) := by
  refine q_aload_n 0 eX11_backs_187 rfl rfl ?_
  refine q_getI eX11_backs_188 fl_11_364 tR_0 rfl ?_
  refine q_aload_n 0 eX11_backs_191 rfl rfl ?_
  refine q_getI eX11_backs_192 fl_11_367 tR_0 rfl ?_
  refine q_callSI (As := [.int (w.1 0 61), .int (w.1 0 62)]) (st := []) eX11_backs_195 cv_11_379 (kX11_isPoint X l (w.1 0 61) (w.1 0 62) w) rfl rfl (Nat.le_of_ble_eq_true rfl) (by decide) (fun r1 w2 => ?_)
  refine q_if_eq (tgt := 205) eX11_backs_198 (by decide) (fun _ => ?_) (fun _ => ?_)
  · refine q_iconst eX11_backs_205 kiconst_2 ?_
    exact q_ireturn eX11_backs_206 rfl
  · refine q_iconst eX11_backs_201 kiconst_0 ?_
    refine q_goto (tgt := 206) eX11_backs_202 (by decide) ?_
    exact q_ireturn eX11_backs_206 rfl
def fX11_backs (a1 : Int32) (w : q_W) : Option (Int32 × q_W) :=
  if q_inb a1 120 then
  if (w.1 29 (q_ix a1)) = 0 then
    q_lt (6 * a1) fun y1 =>
    if q_inb y1 720 then
    q_lt ((w.1 0 61) - (w.1 30 (q_ix y1))) fun y2 =>
    q_lt ((6 * a1) + 1) fun y3 =>
    if q_inb y3 720 then
    q_lt ((w.1 0 62) - (w.1 30 (q_ix y3))) fun y4 =>
    q_lt ((y2 * y2) + (y4 * y4)) fun y5 =>
    q_b (fX11_radius a1 w) fun r6 w7 =>
    if (r6 * r6) ≤ y5 then
      q_b (fX11_root (y5 - (r6 * r6)) w7) fun r8 w9 =>
      q_b (fX11_root y5 w9) fun r10 w11 =>
      q_lt (6 * a1) fun y12 =>
      if q_inb y12 720 then
      if r10 = 0 then none else
      q_lt (q_sI w11 0 61 ((w11.1 30 (q_ix y12)) + ((y2 * r8) / r10))) fun w13 =>
      q_lt ((6 * a1) + 1) fun y14 =>
      if q_inb y14 720 then
      if r10 = 0 then none else
      q_lt (q_sI w13 0 62 ((w13.1 30 (q_ix y14)) + ((y4 * r8) / r10))) fun w15 =>
      fX11_backs_n187 w15
      else none
      else none
    else
      some (1, w7)
    else none
    else none
  else
    q_lt (6 * a1) fun y16 =>
    if q_inb y16 720 then
    if (w.1 30 (q_ix y16)) = 0 then
      q_b (fX11_drags a1 (w.1 0 62) w) fun r17 w18 =>
      q_lt (q_sI w18 0 61 ((w.1 0 61) - r17)) fun w19 =>
      fX11_backs_n187 w19
    else
      q_b (fX11_drags a1 (w.1 0 61) w) fun r20 w21 =>
      q_lt (q_sI w21 0 62 ((w.1 0 62) - r20)) fun w22 =>
      fX11_backs_n187 w22
    else none
  else none
set_option maxHeartbeats 4000000 in
set_option maxRecDepth 100000 in
theorem kX11_backs (X : q_X) (l : Launch) (a1 : Int32) (w : q_W) : q_Ct X S_R l mX11_backs 2 q_tI [.ref 0, .int a1] w (fX11_backs a1 w) := by
  refine q_intro (lv := [(0, .ref 0), (1, .int a1)]) (by decide +kernel) rfl (Nat.le_of_ble_eq_true rfl) rfl ?_
  refine q_aload_n 0 eX11_backs_0 rfl rfl ?_
  refine q_getG (v := 29) eX11_backs_1 fl_11_106 tR_0 rfl gR_0_57 ?_
  refine q_iload_n 1 eX11_backs_4 rfl rfl ?_
  refine q_iald eX11_backs_5 tR_29 nR_29 ?_
  refine q_if_ne (tgt := 136) eX11_backs_6 (by decide) (fun _ => ?_) (fun _ => ?_)
  · refine q_aload_n 0 eX11_backs_9 rfl rfl ?_
    refine q_getI eX11_backs_10 fl_11_364 tR_0 rfl ?_
    refine q_aload_n 0 eX11_backs_13 rfl rfl ?_
    refine q_getG (v := 30) eX11_backs_14 fl_11_109 tR_0 rfl gR_0_58 ?_
    refine q_bipush eX11_backs_17 kbipush_6 ?_
    refine q_iload_n 1 eX11_backs_19 rfl rfl ?_
    refine q_imul eX11_backs_20 ?_
    refine q_ltI (fun y1 => ?_)
    refine q_iald eX11_backs_21 tR_30 nR_30 ?_
    refine q_isub eX11_backs_22 ?_
    refine q_ltI (fun y2 => ?_)
    refine q_istore_n (lv' := [(2, .int y2), (0, .ref 0), (1, .int a1)]) eX11_backs_23 rfl (by decide) rfl ?_
    refine q_aload_n 1 eX11_backs_24 rfl rfl ?_
    refine q_getI eX11_backs_25 fl_11_367 tR_0 rfl ?_
    refine q_aload_n 1 eX11_backs_28 rfl rfl ?_
    refine q_getG (v := 30) eX11_backs_29 fl_11_109 tR_0 rfl gR_0_58 ?_
    refine q_bipush eX11_backs_32 kbipush_6 ?_
    refine q_iload_n 2 eX11_backs_34 rfl rfl ?_
    refine q_imul eX11_backs_35 ?_
    refine q_iconst eX11_backs_36 kiconst_1 ?_
    refine q_iadd eX11_backs_37 ?_
    refine q_ltI (fun y3 => ?_)
    refine q_iald eX11_backs_38 tR_30 nR_30 ?_
    refine q_isub eX11_backs_39 ?_
    refine q_ltI (fun y4 => ?_)
    refine q_istore_n (lv' := [(3, .int y4), (2, .int y2), (0, .ref 0), (1, .int a1)]) eX11_backs_40 rfl (by decide) rfl ?_
    refine q_iload_n 1 eX11_backs_41 rfl rfl ?_
    refine q_iload_n 1 eX11_backs_42 rfl rfl ?_
    refine q_imul eX11_backs_43 ?_
    refine q_iload_n 0 eX11_backs_44 rfl rfl ?_
    refine q_iload_n 0 eX11_backs_45 rfl rfl ?_
    refine q_imul eX11_backs_46 ?_
    refine q_iadd eX11_backs_47 ?_
    refine q_ltI (fun y5 => ?_)
    refine q_istore (lv' := [(4, .int y5), (3, .int y4), (2, .int y2), (0, .ref 0), (1, .int a1)]) eX11_backs_48 (by decide) rfl ?_
    refine q_aload_n 3 eX11_backs_50 rfl rfl ?_
    refine q_iload_n 4 eX11_backs_51 rfl rfl ?_
    refine q_callVI (As := [.int a1]) (st := []) eX11_backs_52 cv_11_370 (kX11_radius X l a1 w) tR_0 rfl (by decide) rfl rfl (Nat.le_of_ble_eq_true rfl) (by decide) (fun r6 w7 => ?_)
    refine q_istore (lv' := [(5, .int r6), (4, .int y5), (3, .int y4), (2, .int y2), (0, .ref 0), (1, .int a1)]) eX11_backs_55 (by decide) rfl ?_
    refine q_iload 1 eX11_backs_57 rfl ?_
    refine q_iload 0 eX11_backs_59 rfl ?_
    refine q_iload 0 eX11_backs_61 rfl ?_
    refine q_imul eX11_backs_63 ?_
    refine q_icmp_ge (tgt := 69) eX11_backs_64 (by decide) (fun _ => ?_) (fun _ => ?_)
    · refine q_iload 1 eX11_backs_69 rfl ?_
      refine q_iload 0 eX11_backs_71 rfl ?_
      refine q_iload 0 eX11_backs_73 rfl ?_
      refine q_imul eX11_backs_75 ?_
      refine q_isub eX11_backs_76 ?_
      refine q_callSI (As := [.int (y5 - (r6 * r6))]) (st := []) eX11_backs_77 cv_11_373 (kX11_root X l (y5 - (r6 * r6)) w7) rfl rfl (Nat.le_of_ble_eq_true rfl) (by decide) (fun r8 w9 => ?_)
      refine q_istore (lv' := [(6, .int r8), (5, .int r6), (4, .int y5), (3, .int y4), (2, .int y2), (0, .ref 0), (1, .int a1)]) eX11_backs_80 (by decide) rfl ?_
      refine q_iload 2 eX11_backs_82 rfl ?_
      refine q_callSI (As := [.int y5]) (st := []) eX11_backs_84 cv_11_373 (kX11_root X l y5 w9) rfl rfl (Nat.le_of_ble_eq_true rfl) (by decide) (fun r10 w11 => ?_)
      refine q_istore (lv' := [(7, .int r10), (6, .int r8), (5, .int r6), (4, .int y5), (3, .int y4), (2, .int y2), (0, .ref 0), (1, .int a1)]) eX11_backs_87 (by decide) rfl ?_
      refine q_aload_n 6 eX11_backs_89 rfl rfl ?_
      refine q_aload_n 6 eX11_backs_90 rfl rfl ?_
      refine q_getG (v := 30) eX11_backs_91 fl_11_109 tR_0 rfl gR_0_58 ?_
      refine q_bipush eX11_backs_94 kbipush_6 ?_
      refine q_iload_n 7 eX11_backs_96 rfl rfl ?_
      refine q_imul eX11_backs_97 ?_
      refine q_ltI (fun y12 => ?_)
      refine q_iald eX11_backs_98 tR_30 nR_30 ?_
      refine q_iload_n 5 eX11_backs_99 rfl rfl ?_
      refine q_iload 1 eX11_backs_100 rfl ?_
      refine q_imul eX11_backs_102 ?_
      refine q_iload 0 eX11_backs_103 rfl ?_
      refine q_idiv eX11_backs_105 ?_
      refine q_iadd eX11_backs_106 ?_
      refine q_putI eX11_backs_107 fp_11_364 tR_0 rfl ⟨rfl, rfl⟩ ?_
      refine q_ltW (fun w13 => ?_)
      refine q_aload_n 6 eX11_backs_110 rfl rfl ?_
      refine q_aload_n 6 eX11_backs_111 rfl rfl ?_
      refine q_getG (v := 30) eX11_backs_112 fl_11_109 tR_0 rfl gR_0_58 ?_
      refine q_bipush eX11_backs_115 kbipush_6 ?_
      refine q_iload_n 7 eX11_backs_117 rfl rfl ?_
      refine q_imul eX11_backs_118 ?_
      refine q_iconst eX11_backs_119 kiconst_1 ?_
      refine q_iadd eX11_backs_120 ?_
      refine q_ltI (fun y14 => ?_)
      refine q_iald eX11_backs_121 tR_30 nR_30 ?_
      refine q_iload_n 4 eX11_backs_122 rfl rfl ?_
      refine q_iload 1 eX11_backs_123 rfl ?_
      refine q_imul eX11_backs_125 ?_
      refine q_iload 0 eX11_backs_126 rfl ?_
      refine q_idiv eX11_backs_128 ?_
      refine q_iadd eX11_backs_129 ?_
      refine q_putI eX11_backs_130 fp_11_367 tR_0 rfl ⟨rfl, rfl⟩ ?_
      refine q_ltW (fun w15 => ?_)
      refine q_goto (tgt := 187) eX11_backs_133 (by decide) ?_
      exact q_sub [6] rfl (jX11_backs_n187 X l w15)
    · refine q_iconst eX11_backs_67 kiconst_1 ?_
      exact q_ireturn eX11_backs_68 rfl
  · refine q_aload_n 0 eX11_backs_136 rfl rfl ?_
    refine q_getG (v := 30) eX11_backs_137 fl_11_109 tR_0 rfl gR_0_58 ?_
    refine q_bipush eX11_backs_140 kbipush_6 ?_
    refine q_iload_n 1 eX11_backs_142 rfl rfl ?_
    refine q_imul eX11_backs_143 ?_
    refine q_ltI (fun y16 => ?_)
    refine q_iald eX11_backs_144 tR_30 nR_30 ?_
    refine q_if_ne (tgt := 169) eX11_backs_145 (by decide) (fun _ => ?_) (fun _ => ?_)
    · refine q_aload_n 0 eX11_backs_148 rfl rfl ?_
      refine q_dup eX11_backs_149 rfl ?_
      refine q_getI eX11_backs_150 fl_11_364 tR_0 rfl ?_
      refine q_aload_n 0 eX11_backs_153 rfl rfl ?_
      refine q_iload_n 1 eX11_backs_154 rfl rfl ?_
      refine q_aload_n 0 eX11_backs_155 rfl rfl ?_
      refine q_getI eX11_backs_156 fl_11_367 tR_0 rfl ?_
      refine q_callVI (As := [.int a1, .int (w.1 0 62)]) (st := [.int (w.1 0 61), .ref 0]) eX11_backs_159 cv_11_376 (kX11_drags X l a1 (w.1 0 62) w) tR_0 rfl (by decide) rfl rfl (Nat.le_of_ble_eq_true rfl) (by decide) (fun r17 w18 => ?_)
      refine q_isub eX11_backs_162 ?_
      refine q_putI eX11_backs_163 fp_11_364 tR_0 rfl ⟨rfl, rfl⟩ ?_
      refine q_ltW (fun w19 => ?_)
      refine q_goto (tgt := 187) eX11_backs_166 (by decide) ?_
      exact q_sub [0] rfl (jX11_backs_n187 X l w19)
    · refine q_aload_n 0 eX11_backs_169 rfl rfl ?_
      refine q_dup eX11_backs_170 rfl ?_
      refine q_getI eX11_backs_171 fl_11_367 tR_0 rfl ?_
      refine q_aload_n 0 eX11_backs_174 rfl rfl ?_
      refine q_iload_n 1 eX11_backs_175 rfl rfl ?_
      refine q_aload_n 0 eX11_backs_176 rfl rfl ?_
      refine q_getI eX11_backs_177 fl_11_364 tR_0 rfl ?_
      refine q_callVI (As := [.int a1, .int (w.1 0 61)]) (st := [.int (w.1 0 62), .ref 0]) eX11_backs_180 cv_11_376 (kX11_drags X l a1 (w.1 0 61) w) tR_0 rfl (by decide) rfl rfl (Nat.le_of_ble_eq_true rfl) (by decide) (fun r20 w21 => ?_)
      refine q_isub eX11_backs_183 ?_
      refine q_putI eX11_backs_184 fp_11_367 tR_0 rfl ⟨rfl, rfl⟩ ?_
      refine q_ltW (fun w22 => ?_)
      exact q_sub [0] rfl (jX11_backs_n187 X l w22)
