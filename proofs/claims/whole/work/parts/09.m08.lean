/-! methods, printed by program: X11_is X11_fail X11_wrong X11_next X11_must X11_emit X11_lands X11_ends X11_comesOut X11_turnsRound X11_named X11_unit X11_expression X11_tellDo X11_reaches -/
def fX11_is (a1 : Int32) (w : q_W) : Option (Int32 × q_W) :=
  if (w.1 0 13) = 0 then
    q_lt (w.1 0 11) fun y1 =>
    if q_inb y1 503 then
    if (w.1 3 (q_ix y1)) = a1 then
      some (1, w)
    else
      some (0, w)
    else none
  else
    some (0, w)
set_option maxHeartbeats 4000000 in
set_option maxRecDepth 100000 in
theorem kX11_is (X : q_X) (l : Launch) (a1 : Int32) (w : q_W) : q_Ct X S_R l mX11_is 0 q_tI [.ref 0, .int a1] w (fX11_is a1 w) := by
  refine q_intro (lv := [(0, .ref 0), (1, .int a1)]) (by decide +kernel) rfl (Nat.le_of_ble_eq_true rfl) rfl ?_
  refine q_aload_n 0 eX11_is_0 rfl rfl ?_
  refine q_getI eX11_is_1 fl_11_173 tR_0 rfl ?_
  refine q_if_ne (tgt := 24) eX11_is_4 (by decide) (fun _ => ?_) (fun _ => ?_)
  · refine q_aload_n 0 eX11_is_7 rfl rfl ?_
    refine q_getG (v := 3) eX11_is_8 fl_11_20 tR_0 rfl gR_0_5 ?_
    refine q_aload_n 0 eX11_is_11 rfl rfl ?_
    refine q_getI eX11_is_12 fl_11_176 tR_0 rfl ?_
    refine q_ltI (fun y1 => ?_)
    refine q_iald eX11_is_15 tR_3 nR_3 ?_
    refine q_iload_n 1 eX11_is_16 rfl rfl ?_
    refine q_icmp_ne (tgt := 24) eX11_is_17 (by decide) (fun _ => ?_) (fun _ => ?_)
    · refine q_iconst eX11_is_20 kiconst_1 ?_
      refine q_goto (tgt := 25) eX11_is_21 (by decide) ?_
      exact q_zret eX11_is_25 rfl rfl
    · refine q_iconst eX11_is_24 kiconst_0 ?_
      exact q_zret eX11_is_25 rfl rfl
  · refine q_iconst eX11_is_24 kiconst_0 ?_
    exact q_zret eX11_is_25 rfl rfl
def fX11_fail (a1 : Int32) (w : q_W) : Option (Unit × q_W) :=
  if (w.1 0 13) ≤ 0 then
    q_lt (q_sI w 0 13 a1) fun w1 =>
    q_lt (w1.1 0 11) fun y2 =>
    if q_inb y2 503 then
    q_lt (q_sI w1 0 14 (w1.1 4 (q_ix y2))) fun w3 =>
    some ((), w3)
    else none
  else
    some ((), w)
set_option maxHeartbeats 4000000 in
set_option maxRecDepth 100000 in
theorem kX11_fail (X : q_X) (l : Launch) (a1 : Int32) (w : q_W) : q_Ct X S_R l mX11_fail 0 q_tV [.ref 0, .int a1] w (fX11_fail a1 w) := by
  refine q_intro (lv := [(0, .ref 0), (1, .int a1)]) (by decide +kernel) rfl (Nat.le_of_ble_eq_true rfl) rfl ?_
  refine q_aload_n 0 eX11_fail_0 rfl rfl ?_
  refine q_getI eX11_fail_1 fl_11_173 tR_0 rfl ?_
  refine q_if_le (tgt := 8) eX11_fail_4 (by decide) (fun _ => ?_) (fun _ => ?_)
  · refine q_aload_n 0 eX11_fail_8 rfl rfl ?_
    refine q_iload_n 1 eX11_fail_9 rfl rfl ?_
    refine q_putI eX11_fail_10 fp_11_173 tR_0 rfl ⟨rfl, rfl⟩ ?_
    refine q_ltW (fun w1 => ?_)
    refine q_aload_n 0 eX11_fail_13 rfl rfl ?_
    refine q_aload_n 0 eX11_fail_14 rfl rfl ?_
    refine q_getG (v := 4) eX11_fail_15 fl_11_24 tR_0 rfl gR_0_6 ?_
    refine q_aload_n 0 eX11_fail_18 rfl rfl ?_
    refine q_getI eX11_fail_19 fl_11_176 tR_0 rfl ?_
    refine q_ltI (fun y2 => ?_)
    refine q_iald eX11_fail_22 tR_4 nR_4 ?_
    refine q_putI eX11_fail_23 fp_11_179 tR_0 rfl ⟨rfl, rfl⟩ ?_
    refine q_ltW (fun w3 => ?_)
    exact q_return eX11_fail_26 rfl
  · exact q_return eX11_fail_7 rfl
def fX11_wrong_n46 (x1 : Int32) (x3 : Int32) (w : q_W) : Option (Unit × q_W) :=
  q_lt (q_sI w 0 15 x1) fun w1 =>
  q_lt (q_sI w1 0 16 x3) fun w2 =>
  some ((), w2)
set_option maxHeartbeats 4000000 in
set_option maxRecDepth 100000 in
theorem jX11_wrong_n46 (X : q_X) (l : Launch) (x1 : Int32) (x3 : Int32) (w : q_W) : q_J X S_R l mX11_wrong 0 q_tV 46 [(0, .ref 0), (1, .int x1), (3, .int x3)] [] w (fX11_wrong_n46 x1 x3 w) := by
  refine q_aload_n 0 eX11_wrong_46 rfl rfl ?_
  refine q_iload_n 1 eX11_wrong_47 rfl rfl ?_
  refine q_putI eX11_wrong_48 fp_11_182 tR_0 rfl ⟨rfl, rfl⟩ ?_
  refine q_ltW (fun w1 => ?_)
  refine q_aload_n 0 eX11_wrong_51 rfl rfl ?_
  refine q_iload_n 2 eX11_wrong_52 rfl rfl ?_
  refine q_putI eX11_wrong_53 fp_11_185 tR_0 rfl ⟨rfl, rfl⟩ ?_
  refine q_ltW (fun w2 => ?_)
  exact q_return eX11_wrong_56 rfl
def fX11_wrong (a1 : Int32) (a2 : Int32) (w : q_W) : Option (Unit × q_W) :=
  if q_inb a2 503 then
  q_lt (w.1 4 (q_ix a2)) fun y1 =>
  if 0 < (w.1 0 13) then
    some ((), w)
  else
    if (w.1 0 15) = 0 then
      fX11_wrong_n46 a1 y1 w
    else
      if (w.1 0 16) < y1 then
        some ((), w)
      else
        if y1 = (w.1 0 16) then
          if a1 < (w.1 0 15) then
            fX11_wrong_n46 a1 y1 w
          else
            some ((), w)
        else
          fX11_wrong_n46 a1 y1 w
  else none
set_option maxHeartbeats 4000000 in
set_option maxRecDepth 100000 in
theorem kX11_wrong (X : q_X) (l : Launch) (a1 : Int32) (a2 : Int32) (w : q_W) : q_Ct X S_R l mX11_wrong 0 q_tV [.ref 0, .int a1, .int a2] w (fX11_wrong a1 a2 w) := by
  refine q_intro (lv := [(0, .ref 0), (1, .int a1), (2, .int a2)]) (by decide +kernel) rfl (Nat.le_of_ble_eq_true rfl) rfl ?_
  refine q_aload_n 0 eX11_wrong_0 rfl rfl ?_
  refine q_getG (v := 4) eX11_wrong_1 fl_11_24 tR_0 rfl gR_0_6 ?_
  refine q_iload_n 2 eX11_wrong_4 rfl rfl ?_
  refine q_iald eX11_wrong_5 tR_4 nR_4 ?_
  refine q_ltI (fun y1 => ?_)
  refine q_istore_n (lv' := [(3, .int y1), (0, .ref 0), (1, .int a1), (2, .int a2)]) eX11_wrong_6 rfl (by decide) rfl ?_
  refine q_aload_n 1 eX11_wrong_7 rfl rfl ?_
  refine q_getI eX11_wrong_8 fl_11_173 tR_0 rfl ?_
  refine q_if_gt (tgt := 45) eX11_wrong_11 (by decide) (fun _ => ?_) (fun _ => ?_)
  · exact q_return eX11_wrong_45 rfl
  · refine q_aload_n 1 eX11_wrong_14 rfl rfl ?_
    refine q_getI eX11_wrong_15 fl_11_182 tR_0 rfl ?_
    refine q_if_eq (tgt := 46) eX11_wrong_18 (by decide) (fun _ => ?_) (fun _ => ?_)
    · exact q_sub [1, 2, 0] rfl (jX11_wrong_n46 X l a1 y1 w)
    · refine q_iload_n 0 eX11_wrong_21 rfl rfl ?_
      refine q_aload_n 1 eX11_wrong_22 rfl rfl ?_
      refine q_getI eX11_wrong_23 fl_11_185 tR_0 rfl ?_
      refine q_icmp_gt (tgt := 45) eX11_wrong_26 (by decide) (fun _ => ?_) (fun _ => ?_)
      · exact q_return eX11_wrong_45 rfl
      · refine q_iload_n 0 eX11_wrong_29 rfl rfl ?_
        refine q_aload_n 1 eX11_wrong_30 rfl rfl ?_
        refine q_getI eX11_wrong_31 fl_11_185 tR_0 rfl ?_
        refine q_icmp_ne (tgt := 46) eX11_wrong_34 (by decide) (fun _ => ?_) (fun _ => ?_)
        · refine q_iload_n 2 eX11_wrong_37 rfl rfl ?_
          refine q_aload_n 1 eX11_wrong_38 rfl rfl ?_
          refine q_getI eX11_wrong_39 fl_11_182 tR_0 rfl ?_
          refine q_icmp_lt (tgt := 46) eX11_wrong_42 (by decide) (fun _ => ?_) (fun _ => ?_)
          · exact q_sub [1, 2, 0] rfl (jX11_wrong_n46 X l a1 y1 w)
          · exact q_return eX11_wrong_45 rfl
        · exact q_sub [1, 2, 0] rfl (jX11_wrong_n46 X l a1 y1 w)
def fX11_next (w : q_W) : Option (Unit × q_W) :=
  if (w.1 0 11) = 500 then
    q_b (fX11_fail 2 w) fun r1 w2 =>
    some ((), w2)
  else
    q_lt (q_sI w 0 11 ((w.1 0 11) + 1)) fun w3 =>
    some ((), w3)
set_option maxHeartbeats 4000000 in
set_option maxRecDepth 100000 in
theorem kX11_next (X : q_X) (l : Launch) (w : q_W) : q_Ct X S_R l mX11_next 1 q_tV [.ref 0] w (fX11_next w) := by
  refine q_intro (lv := [(0, .ref 0)]) (by decide +kernel) rfl (Nat.le_of_ble_eq_true rfl) rfl ?_
  refine q_aload_n 0 eX11_next_0 rfl rfl ?_
  refine q_getI eX11_next_1 fl_11_176 tR_0 rfl ?_
  refine q_sipush eX11_next_4 ksipush_500 ?_
  refine q_icmp_ne (tgt := 18) eX11_next_7 (by decide) (fun _ => ?_) (fun _ => ?_)
  · refine q_aload_n 0 eX11_next_10 rfl rfl ?_
    refine q_iconst eX11_next_11 kiconst_2 ?_
    refine q_callVV (As := [.int 2]) (st := []) eX11_next_12 cv_11_188 (kX11_fail X l 2 w) tR_0 rfl (by decide) rfl rfl (Nat.le_of_ble_eq_true rfl) (by decide) (fun r1 w2 => ?_)
    refine q_goto (tgt := 28) eX11_next_15 (by decide) ?_
    exact q_return eX11_next_28 rfl
  · refine q_aload_n 0 eX11_next_18 rfl rfl ?_
    refine q_dup eX11_next_19 rfl ?_
    refine q_getI eX11_next_20 fl_11_176 tR_0 rfl ?_
    refine q_iconst eX11_next_23 kiconst_1 ?_
    refine q_iadd eX11_next_24 ?_
    refine q_putI eX11_next_25 fp_11_176 tR_0 rfl ⟨rfl, rfl⟩ ?_
    refine q_ltW (fun w3 => ?_)
    exact q_return eX11_next_28 rfl
def fX11_must (a1 : Int32) (w : q_W) : Option (Unit × q_W) :=
  q_b (fX11_is a1 w) fun r1 w2 =>
  if r1 = 0 then
    q_b (fX11_fail 1 w2) fun r3 w4 =>
    some ((), w4)
  else
    q_b (fX11_next w2) fun r5 w6 =>
    some ((), w6)
set_option maxHeartbeats 4000000 in
set_option maxRecDepth 100000 in
theorem kX11_must (X : q_X) (l : Launch) (a1 : Int32) (w : q_W) : q_Ct X S_R l mX11_must 2 q_tV [.ref 0, .int a1] w (fX11_must a1 w) := by
  refine q_intro (lv := [(0, .ref 0), (1, .int a1)]) (by decide +kernel) rfl (Nat.le_of_ble_eq_true rfl) rfl ?_
  refine q_aload_n 0 eX11_must_0 rfl rfl ?_
  refine q_iload_n 1 eX11_must_1 rfl rfl ?_
  refine q_callVI (As := [.int a1]) (st := []) eX11_must_2 cv_11_191 (kX11_is X l a1 w) tR_0 rfl (by decide) rfl rfl (Nat.le_of_ble_eq_true rfl) (by decide) (fun r1 w2 => ?_)
  refine q_if_eq (tgt := 15) eX11_must_5 (by decide) (fun _ => ?_) (fun _ => ?_)
  · refine q_aload_n 0 eX11_must_15 rfl rfl ?_
    refine q_iconst eX11_must_16 kiconst_1 ?_
    refine q_callVV (As := [.int 1]) (st := []) eX11_must_17 cv_11_188 (kX11_fail X l 1 w2) tR_0 rfl (by decide) rfl rfl (Nat.le_of_ble_eq_true rfl) (by decide) (fun r3 w4 => ?_)
    exact q_return eX11_must_20 rfl
  · refine q_aload_n 0 eX11_must_8 rfl rfl ?_
    refine q_callVV (As := []) (st := []) eX11_must_9 cv_11_194 (kX11_next X l w2) tR_0 rfl (by decide) rfl rfl (Nat.le_of_ble_eq_true rfl) (by decide) (fun r5 w6 => ?_)
    refine q_goto (tgt := 20) eX11_must_12 (by decide) ?_
    exact q_return eX11_must_20 rfl
def fX11_emit (a1 : Int32) (a2 : Int32) (a3 : Int32) (w : q_W) : Option (Unit × q_W) :=
  q_lt (w.1 0 24) fun y1 =>
  if q_inb y1 4000 then
  q_lt (q_sI w 12 (q_ix y1) a1) fun w2 =>
  q_lt (w2.1 0 24) fun y3 =>
  if q_inb y3 4000 then
  q_lt (q_sI w2 13 (q_ix y3) a2) fun w4 =>
  q_lt (w4.1 0 24) fun y5 =>
  if q_inb y5 4000 then
  q_lt (q_sI w4 14 (q_ix y5) a3) fun w6 =>
  q_lt (q_sI w6 0 24 ((w6.1 0 24) + 1)) fun w7 =>
  some ((), w7)
  else none
  else none
  else none
set_option maxHeartbeats 4000000 in
set_option maxRecDepth 100000 in
theorem kX11_emit (X : q_X) (l : Launch) (a1 : Int32) (a2 : Int32) (a3 : Int32) (w : q_W) : q_Ct X S_R l mX11_emit 0 q_tV [.ref 0, .int a1, .int a2, .int a3] w (fX11_emit a1 a2 a3 w) := by
  refine q_intro (lv := [(0, .ref 0), (1, .int a1), (2, .int a2), (3, .int a3)]) (by decide +kernel) rfl (Nat.le_of_ble_eq_true rfl) rfl ?_
  refine q_aload_n 0 eX11_emit_0 rfl rfl ?_
  refine q_getG (v := 12) eX11_emit_1 fl_11_52 tR_0 rfl gR_0_25 ?_
  refine q_aload_n 0 eX11_emit_4 rfl rfl ?_
  refine q_getI eX11_emit_5 fl_11_212 tR_0 rfl ?_
  refine q_iload_n 1 eX11_emit_8 rfl rfl ?_
  refine q_ltI1 (fun y1 => ?_)
  refine q_iast eX11_emit_9 tR_12 nR_12 ?_
  refine q_ltW (fun w2 => ?_)
  refine q_aload_n 0 eX11_emit_10 rfl rfl ?_
  refine q_getG (v := 13) eX11_emit_11 fl_11_55 tR_0 rfl gR_0_26 ?_
  refine q_aload_n 0 eX11_emit_14 rfl rfl ?_
  refine q_getI eX11_emit_15 fl_11_212 tR_0 rfl ?_
  refine q_iload_n 2 eX11_emit_18 rfl rfl ?_
  refine q_ltI1 (fun y3 => ?_)
  refine q_iast eX11_emit_19 tR_13 nR_13 ?_
  refine q_ltW (fun w4 => ?_)
  refine q_aload_n 0 eX11_emit_20 rfl rfl ?_
  refine q_getG (v := 14) eX11_emit_21 fl_11_58 tR_0 rfl gR_0_27 ?_
  refine q_aload_n 0 eX11_emit_24 rfl rfl ?_
  refine q_getI eX11_emit_25 fl_11_212 tR_0 rfl ?_
  refine q_iload_n 3 eX11_emit_28 rfl rfl ?_
  refine q_ltI1 (fun y5 => ?_)
  refine q_iast eX11_emit_29 tR_14 nR_14 ?_
  refine q_ltW (fun w6 => ?_)
  refine q_aload_n 0 eX11_emit_30 rfl rfl ?_
  refine q_dup eX11_emit_31 rfl ?_
  refine q_getI eX11_emit_32 fl_11_212 tR_0 rfl ?_
  refine q_iconst eX11_emit_35 kiconst_1 ?_
  refine q_iadd eX11_emit_36 ?_
  refine q_putI eX11_emit_37 fp_11_212 tR_0 rfl ⟨rfl, rfl⟩ ?_
  refine q_ltW (fun w7 => ?_)
  exact q_return eX11_emit_40 rfl
def fX11_lands_h2 (rec2 : Int32 → q_W → Option (Unit × q_W)) (x2 : Int32) (w : q_W) : Option (Unit × q_W) :=
  if x2 = (-1) then
    some ((), w)
  else
    if q_inb x2 4000 then
    q_lt (w.1 14 (q_ix x2)) fun y1 =>
    if q_inb x2 4000 then
    q_lt (q_sI w 13 (q_ix x2) (w.1 0 24)) fun w2 =>
    rec2 y1 w2
    else none
    else none
def fX11_lands_l2 : Int32 → q_W → Option (Unit × q_W) := q_it q_N (fX11_lands_h2) (fun _ _ => none)
set_option maxHeartbeats 4000000 in
set_option maxRecDepth 100000 in
theorem jX11_lands_h2 (X : q_X) (l : Launch) (rec2 : Int32 → q_W → Option (Unit × q_W)) (hr2 : ∀ x2 w, q_J X S_R l mX11_lands 0 q_tV 2 [(0, .ref 0), (2, .int x2)] [] w (rec2 x2 w)) : ∀ x2 w, q_J X S_R l mX11_lands 0 q_tV 2 [(0, .ref 0), (2, .int x2)] [] w (fX11_lands_h2 rec2 x2 w) := by
  intro x2 w
  refine q_iload_n 1 eX11_lands_2 rfl rfl ?_
  refine q_iconst eX11_lands_3 kiconst_m1 ?_
  refine q_icmp_eq (tgt := 29) eX11_lands_4 (by decide) (fun _ => ?_) (fun _ => ?_)
  · exact q_return eX11_lands_29 rfl
  · refine q_aload_n 0 eX11_lands_7 rfl rfl ?_
    refine q_getG (v := 14) eX11_lands_8 fl_11_58 tR_0 rfl gR_0_27 ?_
    refine q_iload_n 1 eX11_lands_11 rfl rfl ?_
    refine q_iald eX11_lands_12 tR_14 nR_14 ?_
    refine q_ltI (fun y1 => ?_)
    refine q_istore_n (lv' := [(3, .int y1), (0, .ref 0), (2, .int x2)]) eX11_lands_13 rfl (by decide) rfl ?_
    refine q_aload_n 1 eX11_lands_14 rfl rfl ?_
    refine q_getG (v := 13) eX11_lands_15 fl_11_55 tR_0 rfl gR_0_26 ?_
    refine q_iload_n 2 eX11_lands_18 rfl rfl ?_
    refine q_aload_n 1 eX11_lands_19 rfl rfl ?_
    refine q_getI eX11_lands_20 fl_11_212 tR_0 rfl ?_
    refine q_iast eX11_lands_23 tR_13 nR_13 ?_
    refine q_ltW (fun w2 => ?_)
    refine q_iload_n 0 eX11_lands_24 rfl rfl ?_
    refine q_istore_n (lv' := [(2, .int y1), (3, .int y1), (0, .ref 0)]) eX11_lands_25 rfl (by decide) rfl ?_
    refine q_goto (tgt := 2) eX11_lands_26 (by decide) ?_
    exact q_sub [2, 0] rfl (hr2 y1 w2)
set_option maxHeartbeats 4000000 in
set_option maxRecDepth 100000 in
theorem jX11_lands_l2 (X : q_X) (l : Launch) : ∀ x2 w, q_J X S_R l mX11_lands 0 q_tV 2 [(0, .ref 0), (2, .int x2)] [] w (fX11_lands_l2 x2 w) := by
  exact q_it_ind (fun rc => ∀ x2 w, q_J X S_R l mX11_lands 0 q_tV 2 [(0, .ref 0), (2, .int x2)] [] w (rc x2 w)) _ _ (fun _ _ => q_none) (fun rc hrc => jX11_lands_h2 X l rc hrc) q_N
def fX11_lands (a1 : Int32) (w : q_W) : Option (Unit × q_W) :=
  fX11_lands_l2 a1 w
set_option maxHeartbeats 4000000 in
set_option maxRecDepth 100000 in
theorem kX11_lands (X : q_X) (l : Launch) (a1 : Int32) (w : q_W) : q_Ct X S_R l mX11_lands 0 q_tV [.ref 0, .int a1] w (fX11_lands a1 w) := by
  refine q_intro (lv := [(0, .ref 0), (1, .int a1)]) (by decide +kernel) rfl (Nat.le_of_ble_eq_true rfl) rfl ?_
  refine q_iload_n 1 eX11_lands_0 rfl rfl ?_
  refine q_istore_n (lv' := [(2, .int a1), (0, .ref 0), (1, .int a1)]) eX11_lands_1 rfl (by decide) rfl ?_
  exact q_sub [1, 0] rfl (jX11_lands_l2 X l a1 w)
def fX11_ends (w : q_W) : Option (Unit × q_W) :=
  q_lt (q_sI w 0 30 ((w.1 0 30) - 1)) fun w1 =>
  q_lt (w1.1 0 30) fun y2 =>
  if q_inb y2 8 then
  q_lt (w1.1 17 (q_ix y2)) fun y3 =>
  q_lt (w1.1 0 30) fun y4 =>
  if q_inb y4 8 then
  q_lt (w1.1 16 (q_ix y4)) fun y5 =>
  if y5 = 0 then
    q_b (fX11_emit 18 0 0 w1) fun r7 w8 =>
    some ((), w8)
  else if y5 = 1 then
    q_lt (w1.1 0 30) fun y10 =>
    if q_inb y10 8 then
    q_b (fX11_emit 12 (w1.1 18 (q_ix y10)) (y3 + 1) w1) fun r11 w12 =>
    if q_inb y3 4000 then
    q_lt (q_sI w12 14 (q_ix y3) (w12.1 0 24)) fun w13 =>
    q_lt (q_sI w13 0 28 ((w13.1 0 28) - 1)) fun w14 =>
    some ((), w14)
    else none
    else none
  else q_b (fX11_lands y3 w1) fun r15 w16 =>
  some ((), w16)
  else none
  else none
set_option maxHeartbeats 4000000 in
set_option maxRecDepth 100000 in
theorem kX11_ends (X : q_X) (l : Launch) (w : q_W) : q_Ct X S_R l mX11_ends 1 q_tV [.ref 0] w (fX11_ends w) := by
  refine q_intro (lv := [(0, .ref 0)]) (by decide +kernel) rfl (Nat.le_of_ble_eq_true rfl) rfl ?_
  refine q_aload_n 0 eX11_ends_0 rfl rfl ?_
  refine q_dup eX11_ends_1 rfl ?_
  refine q_getI eX11_ends_2 fl_11_231 tR_0 rfl ?_
  refine q_iconst eX11_ends_5 kiconst_1 ?_
  refine q_isub eX11_ends_6 ?_
  refine q_putI eX11_ends_7 fp_11_231 tR_0 rfl ⟨rfl, rfl⟩ ?_
  refine q_ltW (fun w1 => ?_)
  refine q_aload_n 0 eX11_ends_10 rfl rfl ?_
  refine q_getG (v := 17) eX11_ends_11 fl_11_67 tR_0 rfl gR_0_32 ?_
  refine q_aload_n 0 eX11_ends_14 rfl rfl ?_
  refine q_getI eX11_ends_15 fl_11_231 tR_0 rfl ?_
  refine q_ltI (fun y2 => ?_)
  refine q_iald eX11_ends_18 tR_17 nR_17 ?_
  refine q_ltI (fun y3 => ?_)
  refine q_istore_n (lv' := [(1, .int y3), (0, .ref 0)]) eX11_ends_19 rfl (by decide) rfl ?_
  refine q_aload_n 1 eX11_ends_20 rfl rfl ?_
  refine q_getG (v := 16) eX11_ends_21 fl_11_64 tR_0 rfl gR_0_31 ?_
  refine q_aload_n 1 eX11_ends_24 rfl rfl ?_
  refine q_getI eX11_ends_25 fl_11_231 tR_0 rfl ?_
  refine q_ltI (fun y4 => ?_)
  refine q_iald eX11_ends_28 tR_16 nR_16 ?_
  refine q_ltI (fun y5 => ?_)
  refine q_ite (fun c6 => ?_) (fun c6 => ?_)
  · refine q_lookup (off := 27) (tgt := 56) eX11_ends_29 (by decide) (by rw [c6]; decide) (by decide) ?_
    refine q_aload_n 1 eX11_ends_56 rfl rfl ?_
    refine q_bipush eX11_ends_57 kbipush_18 ?_
    refine q_iconst eX11_ends_59 kiconst_0 ?_
    refine q_iconst eX11_ends_60 kiconst_0 ?_
    refine q_callVV (As := [.int 18, .int 0, .int 0]) (st := []) eX11_ends_61 cv_11_246 (kX11_emit X l 18 0 0 w1) tR_0 rfl (by decide) rfl rfl (Nat.le_of_ble_eq_true rfl) (by decide) (fun r7 w8 => ?_)
    refine q_goto (tgt := 113) eX11_ends_64 (by decide) ?_
    exact q_return eX11_ends_113 rfl
  refine q_ite (fun c9 => ?_) (fun c9 => ?_)
  · refine q_lookup (off := 38) (tgt := 67) eX11_ends_29 (by decide) (by rw [c9]; decide) (by decide) ?_
    refine q_aload_n 1 eX11_ends_67 rfl rfl ?_
    refine q_bipush eX11_ends_68 kbipush_12 ?_
    refine q_aload_n 1 eX11_ends_70 rfl rfl ?_
    refine q_getG (v := 18) eX11_ends_71 fl_11_70 tR_0 rfl gR_0_33 ?_
    refine q_aload_n 1 eX11_ends_74 rfl rfl ?_
    refine q_getI eX11_ends_75 fl_11_231 tR_0 rfl ?_
    refine q_ltI (fun y10 => ?_)
    refine q_iald eX11_ends_78 tR_18 nR_18 ?_
    refine q_iload_n 0 eX11_ends_79 rfl rfl ?_
    refine q_iconst eX11_ends_80 kiconst_1 ?_
    refine q_iadd eX11_ends_81 ?_
    refine q_callVV (As := [.int 12, .int (w1.1 18 (q_ix y10)), .int (y3 + 1)]) (st := []) eX11_ends_82 cv_11_246 (kX11_emit X l 12 (w1.1 18 (q_ix y10)) (y3 + 1) w1) tR_0 rfl (by decide) rfl rfl (Nat.le_of_ble_eq_true rfl) (by decide) (fun r11 w12 => ?_)
    refine q_aload_n 1 eX11_ends_85 rfl rfl ?_
    refine q_getG (v := 14) eX11_ends_86 fl_11_58 tR_0 rfl gR_0_27 ?_
    refine q_iload_n 0 eX11_ends_89 rfl rfl ?_
    refine q_aload_n 1 eX11_ends_90 rfl rfl ?_
    refine q_getI eX11_ends_91 fl_11_212 tR_0 rfl ?_
    refine q_iast eX11_ends_94 tR_14 nR_14 ?_
    refine q_ltW (fun w13 => ?_)
    refine q_aload_n 1 eX11_ends_95 rfl rfl ?_
    refine q_dup eX11_ends_96 rfl ?_
    refine q_getI eX11_ends_97 fl_11_218 tR_0 rfl ?_
    refine q_iconst eX11_ends_100 kiconst_1 ?_
    refine q_isub eX11_ends_101 ?_
    refine q_putI eX11_ends_102 fp_11_218 tR_0 rfl ⟨rfl, rfl⟩ ?_
    refine q_ltW (fun w14 => ?_)
    refine q_goto (tgt := 113) eX11_ends_105 (by decide) ?_
    exact q_return eX11_ends_113 rfl
  refine q_lookup (off := 79) (tgt := 108) eX11_ends_29 (by decide) (q_off1 c6 rfl (q_off1 c9 rfl q_off0)) (by decide) ?_
  refine q_aload_n 1 eX11_ends_108 rfl rfl ?_
  refine q_iload_n 0 eX11_ends_109 rfl rfl ?_
  refine q_callVV (As := [.int y3]) (st := []) eX11_ends_110 cv_11_274 (kX11_lands X l y3 w1) tR_0 rfl (by decide) rfl rfl (Nat.le_of_ble_eq_true rfl) (by decide) (fun r15 w16 => ?_)
  exact q_return eX11_ends_113 rfl
def fX11_comesOut_n110 (rec0 : Int32 → q_W → Option (Unit × q_W)) (x1 : Int32) (s0 : Int32) (w : q_W) : Option (Unit × q_W) :=
  q_b (fX11_emit s0 0 0 w) fun r1 w2 =>
  rec0 x1 w2
set_option maxHeartbeats 4000000 in
set_option maxRecDepth 100000 in
theorem jX11_comesOut_n110 (X : q_X) (l : Launch) (rec0 : Int32 → q_W → Option (Unit × q_W)) (hr0 : ∀ x1 w, q_J X S_R l mX11_comesOut 1 q_tV 0 [(0, .ref 0), (1, .int x1)] [] w (rec0 x1 w)) (x1 : Int32) (s0 : Int32) (w : q_W) : q_J X S_R l mX11_comesOut 1 q_tV 110 [(0, .ref 0), (1, .int x1)] [.int s0, .ref 0] w (fX11_comesOut_n110 rec0 x1 s0 w) := by
  refine q_iconst eX11_comesOut_110 kiconst_0 ?_
  refine q_iconst eX11_comesOut_111 kiconst_0 ?_
  refine q_callVV (As := [.int s0, .int 0, .int 0]) (st := []) eX11_comesOut_112 cv_11_246 (kX11_emit X l s0 0 0 w) tR_0 rfl (by decide) rfl rfl (Nat.le_of_ble_eq_true rfl) (by decide) (fun r1 w2 => ?_)
  refine q_goto (tgt := 0) eX11_comesOut_115 (by decide) ?_
  exact q_sub [0, 1] rfl (hr0 x1 w2)
def fX11_comesOut_n57 (rec0 : Int32 → q_W → Option (Unit × q_W)) (x1 : Int32) (x2 : Int32) (w : q_W) : Option (Unit × q_W) :=
  q_lt (q_sI w 0 38 ((w.1 0 38) - 1)) fun w1 =>
  if x2 = 8 then
    fX11_comesOut_n110 rec0 x1 2 w1
  else
    if x2 = 9 then
      fX11_comesOut_n110 rec0 x1 3 w1
    else
      if x2 = 10 then
        fX11_comesOut_n110 rec0 x1 4 w1
      else
        if x2 = 15 then
          fX11_comesOut_n110 rec0 x1 5 w1
        else
          fX11_comesOut_n110 rec0 x1 6 w1
set_option maxHeartbeats 4000000 in
set_option maxRecDepth 100000 in
theorem jX11_comesOut_n57 (X : q_X) (l : Launch) (rec0 : Int32 → q_W → Option (Unit × q_W)) (hr0 : ∀ x1 w, q_J X S_R l mX11_comesOut 1 q_tV 0 [(0, .ref 0), (1, .int x1)] [] w (rec0 x1 w)) (x1 : Int32) (x2 : Int32) (w : q_W) : q_J X S_R l mX11_comesOut 1 q_tV 57 [(0, .ref 0), (1, .int x1), (2, .int x2)] [] w (fX11_comesOut_n57 rec0 x1 x2 w) := by
  refine q_aload_n 0 eX11_comesOut_57 rfl rfl ?_
  refine q_dup eX11_comesOut_58 rfl ?_
  refine q_getI eX11_comesOut_59 fl_11_203 tR_0 rfl ?_
  refine q_iconst eX11_comesOut_62 kiconst_1 ?_
  refine q_isub eX11_comesOut_63 ?_
  refine q_putI eX11_comesOut_64 fp_11_203 tR_0 rfl ⟨rfl, rfl⟩ ?_
  refine q_ltW (fun w1 => ?_)
  refine q_aload_n 0 eX11_comesOut_67 rfl rfl ?_
  refine q_iload_n 2 eX11_comesOut_68 rfl rfl ?_
  refine q_bipush eX11_comesOut_69 kbipush_8 ?_
  refine q_icmp_ne (tgt := 78) eX11_comesOut_71 (by decide) (fun _ => ?_) (fun _ => ?_)
  · refine q_iconst eX11_comesOut_74 kiconst_2 ?_
    refine q_goto (tgt := 110) eX11_comesOut_75 (by decide) ?_
    exact q_sub [0, 1] rfl (jX11_comesOut_n110 X l rec0 hr0 x1 2 w1)
  · refine q_iload_n 2 eX11_comesOut_78 rfl rfl ?_
    refine q_bipush eX11_comesOut_79 kbipush_9 ?_
    refine q_icmp_ne (tgt := 88) eX11_comesOut_81 (by decide) (fun _ => ?_) (fun _ => ?_)
    · refine q_iconst eX11_comesOut_84 kiconst_3 ?_
      refine q_goto (tgt := 110) eX11_comesOut_85 (by decide) ?_
      exact q_sub [0, 1] rfl (jX11_comesOut_n110 X l rec0 hr0 x1 3 w1)
    · refine q_iload_n 2 eX11_comesOut_88 rfl rfl ?_
      refine q_bipush eX11_comesOut_89 kbipush_10 ?_
      refine q_icmp_ne (tgt := 98) eX11_comesOut_91 (by decide) (fun _ => ?_) (fun _ => ?_)
      · refine q_iconst eX11_comesOut_94 kiconst_4 ?_
        refine q_goto (tgt := 110) eX11_comesOut_95 (by decide) ?_
        exact q_sub [0, 1] rfl (jX11_comesOut_n110 X l rec0 hr0 x1 4 w1)
      · refine q_iload_n 2 eX11_comesOut_98 rfl rfl ?_
        refine q_bipush eX11_comesOut_99 kbipush_15 ?_
        refine q_icmp_ne (tgt := 108) eX11_comesOut_101 (by decide) (fun _ => ?_) (fun _ => ?_)
        · refine q_iconst eX11_comesOut_104 kiconst_5 ?_
          refine q_goto (tgt := 110) eX11_comesOut_105 (by decide) ?_
          exact q_sub [0, 1] rfl (jX11_comesOut_n110 X l rec0 hr0 x1 5 w1)
        · refine q_bipush eX11_comesOut_108 kbipush_6 ?_
          exact q_sub [0, 1] rfl (jX11_comesOut_n110 X l rec0 hr0 x1 6 w1)
def fX11_comesOut_n36 (rec0 : Int32 → q_W → Option (Unit × q_W)) (x1 : Int32) (x2 : Int32) (s0 : Int32) (w : q_W) : Option (Unit × q_W) :=
  if x2 = 6 then
    some ((), w)
  else
    if x2 = 1 then
      some ((), w)
    else
      if s0 = 0 then
        fX11_comesOut_n57 rec0 x1 x2 w
      else
        if x1 = 0 then
          fX11_comesOut_n57 rec0 x1 x2 w
        else
          some ((), w)
set_option maxHeartbeats 4000000 in
set_option maxRecDepth 100000 in
theorem jX11_comesOut_n36 (X : q_X) (l : Launch) (rec0 : Int32 → q_W → Option (Unit × q_W)) (hr0 : ∀ x1 w, q_J X S_R l mX11_comesOut 1 q_tV 0 [(0, .ref 0), (1, .int x1)] [] w (rec0 x1 w)) (x1 : Int32) (x2 : Int32) (s0 : Int32) (w : q_W) : q_J X S_R l mX11_comesOut 1 q_tV 36 [(0, .ref 0), (1, .int x1), (2, .int x2)] [.int s0] w (fX11_comesOut_n36 rec0 x1 x2 s0 w) := by
  refine q_istore_n (lv' := [(3, .int s0), (0, .ref 0), (1, .int x1), (2, .int x2)]) eX11_comesOut_36 rfl (by decide) rfl ?_
  refine q_iload_n 3 eX11_comesOut_37 rfl rfl ?_
  refine q_bipush eX11_comesOut_38 kbipush_6 ?_
  refine q_icmp_eq (tgt := 56) eX11_comesOut_40 (by decide) (fun _ => ?_) (fun _ => ?_)
  · exact q_return eX11_comesOut_56 rfl
  · refine q_iload_n 3 eX11_comesOut_43 rfl rfl ?_
    refine q_iconst eX11_comesOut_44 kiconst_1 ?_
    refine q_icmp_eq (tgt := 56) eX11_comesOut_45 (by decide) (fun _ => ?_) (fun _ => ?_)
    · exact q_return eX11_comesOut_56 rfl
    · refine q_iload_n 0 eX11_comesOut_48 rfl rfl ?_
      refine q_if_eq (tgt := 57) eX11_comesOut_49 (by decide) (fun _ => ?_) (fun _ => ?_)
      · exact q_sub [1, 2, 3] rfl (jX11_comesOut_n57 X l rec0 hr0 x1 x2 w)
      · refine q_iload_n 2 eX11_comesOut_52 rfl rfl ?_
        refine q_if_eq (tgt := 57) eX11_comesOut_53 (by decide) (fun _ => ?_) (fun _ => ?_)
        · exact q_sub [1, 2, 3] rfl (jX11_comesOut_n57 X l rec0 hr0 x1 x2 w)
        · exact q_return eX11_comesOut_56 rfl
def fX11_comesOut_n31 (rec0 : Int32 → q_W → Option (Unit × q_W)) (x1 : Int32) (x2 : Int32) (w : q_W) : Option (Unit × q_W) :=
  fX11_comesOut_n36 rec0 x1 x2 1 w
set_option maxHeartbeats 4000000 in
set_option maxRecDepth 100000 in
theorem jX11_comesOut_n31 (X : q_X) (l : Launch) (rec0 : Int32 → q_W → Option (Unit × q_W)) (hr0 : ∀ x1 w, q_J X S_R l mX11_comesOut 1 q_tV 0 [(0, .ref 0), (1, .int x1)] [] w (rec0 x1 w)) (x1 : Int32) (x2 : Int32) (w : q_W) : q_J X S_R l mX11_comesOut 1 q_tV 31 [(0, .ref 0), (1, .int x1), (2, .int x2)] [] w (fX11_comesOut_n31 rec0 x1 x2 w) := by
  refine q_iconst eX11_comesOut_31 kiconst_1 ?_
  refine q_goto (tgt := 36) eX11_comesOut_32 (by decide) ?_
  exact q_sub [0, 1, 2] rfl (jX11_comesOut_n36 X l rec0 hr0 x1 x2 1 w)
def fX11_comesOut_h0 (rec0 : Int32 → q_W → Option (Unit × q_W)) (x1 : Int32) (w : q_W) : Option (Unit × q_W) :=
  if (w.1 0 38) ≤ 0 then
    some ((), w)
  else
    q_lt ((w.1 0 38) - 1) fun y1 =>
    if q_inb y1 64 then
    q_lt (w.1 20 (q_ix y1)) fun y2 =>
    if y2 = 8 then
      fX11_comesOut_n31 rec0 x1 y2 w
    else
      if y2 = 9 then
        fX11_comesOut_n31 rec0 x1 y2 w
      else
        fX11_comesOut_n36 rec0 x1 y2 0 w
    else none
def fX11_comesOut_l0 : Int32 → q_W → Option (Unit × q_W) := q_it q_N (fX11_comesOut_h0) (fun _ _ => none)
set_option maxHeartbeats 4000000 in
set_option maxRecDepth 100000 in
theorem jX11_comesOut_h0 (X : q_X) (l : Launch) (rec0 : Int32 → q_W → Option (Unit × q_W)) (hr0 : ∀ x1 w, q_J X S_R l mX11_comesOut 1 q_tV 0 [(0, .ref 0), (1, .int x1)] [] w (rec0 x1 w)) : ∀ x1 w, q_J X S_R l mX11_comesOut 1 q_tV 0 [(0, .ref 0), (1, .int x1)] [] w (fX11_comesOut_h0 rec0 x1 w) := by
  intro x1 w
  refine q_aload_n 0 eX11_comesOut_0 rfl rfl ?_
  refine q_getI eX11_comesOut_1 fl_11_203 tR_0 rfl ?_
  refine q_if_le (tgt := 118) eX11_comesOut_4 (by decide) (fun _ => ?_) (fun _ => ?_)
  · exact q_return eX11_comesOut_118 rfl
  · refine q_aload_n 0 eX11_comesOut_7 rfl rfl ?_
    refine q_getG (v := 20) eX11_comesOut_8 fl_11_76 tR_0 rfl gR_0_37 ?_
    refine q_aload_n 0 eX11_comesOut_11 rfl rfl ?_
    refine q_getI eX11_comesOut_12 fl_11_203 tR_0 rfl ?_
    refine q_iconst eX11_comesOut_15 kiconst_1 ?_
    refine q_isub eX11_comesOut_16 ?_
    refine q_ltI (fun y1 => ?_)
    refine q_iald eX11_comesOut_17 tR_20 nR_20 ?_
    refine q_ltI (fun y2 => ?_)
    refine q_istore_n (lv' := [(2, .int y2), (0, .ref 0), (1, .int x1)]) eX11_comesOut_18 rfl (by decide) rfl ?_
    refine q_iload_n 0 eX11_comesOut_19 rfl rfl ?_
    refine q_bipush eX11_comesOut_20 kbipush_8 ?_
    refine q_icmp_eq (tgt := 31) eX11_comesOut_22 (by decide) (fun _ => ?_) (fun _ => ?_)
    · exact q_sub [1, 2, 0] rfl (jX11_comesOut_n31 X l rec0 hr0 x1 y2 w)
    · refine q_iload_n 0 eX11_comesOut_25 rfl rfl ?_
      refine q_bipush eX11_comesOut_26 kbipush_9 ?_
      refine q_icmp_ne (tgt := 35) eX11_comesOut_28 (by decide) (fun _ => ?_) (fun _ => ?_)
      · exact q_sub [1, 2, 0] rfl (jX11_comesOut_n31 X l rec0 hr0 x1 y2 w)
      · refine q_iconst eX11_comesOut_35 kiconst_0 ?_
        exact q_sub [1, 2, 0] rfl (jX11_comesOut_n36 X l rec0 hr0 x1 y2 0 w)
set_option maxHeartbeats 4000000 in
set_option maxRecDepth 100000 in
theorem jX11_comesOut_l0 (X : q_X) (l : Launch) : ∀ x1 w, q_J X S_R l mX11_comesOut 1 q_tV 0 [(0, .ref 0), (1, .int x1)] [] w (fX11_comesOut_l0 x1 w) := by
  exact q_it_ind (fun rc => ∀ x1 w, q_J X S_R l mX11_comesOut 1 q_tV 0 [(0, .ref 0), (1, .int x1)] [] w (rc x1 w)) _ _ (fun _ _ => q_none) (fun rc hrc => jX11_comesOut_h0 X l rc hrc) q_N
def fX11_comesOut (a1 : Int32) (w : q_W) : Option (Unit × q_W) :=
  fX11_comesOut_l0 a1 w
set_option maxHeartbeats 4000000 in
set_option maxRecDepth 100000 in
theorem kX11_comesOut (X : q_X) (l : Launch) (a1 : Int32) (w : q_W) : q_Ct X S_R l mX11_comesOut 1 q_tV [.ref 0, .int a1] w (fX11_comesOut a1 w) := by
  refine q_intro (lv := [(0, .ref 0), (1, .int a1)]) (by decide +kernel) rfl (Nat.le_of_ble_eq_true rfl) rfl ?_
  exact q_sub [0, 1] rfl (jX11_comesOut_l0 X l a1 w)
def fX11_turnsRound_h0 (rec0 : q_W → Option (Unit × q_W)) (w : q_W) : Option (Unit × q_W) :=
  if (w.1 0 38) ≤ 0 then
    some ((), w)
  else
    q_lt ((w.1 0 38) - 1) fun y1 =>
    if q_inb y1 64 then
    if (w.1 20 (q_ix y1)) = 1 then
      q_lt (q_sI w 0 38 ((w.1 0 38) - 1)) fun w2 =>
      q_lt (q_sI w2 0 12 ((w2.1 0 12) - 1)) fun w3 =>
      q_b (fX11_emit 7 0 0 w3) fun r4 w5 =>
      rec0 w5
    else
      some ((), w)
    else none
def fX11_turnsRound_l0 : q_W → Option (Unit × q_W) := q_it q_N (fX11_turnsRound_h0) (fun _ => none)
set_option maxHeartbeats 4000000 in
set_option maxRecDepth 100000 in
theorem jX11_turnsRound_h0 (X : q_X) (l : Launch) (rec0 : q_W → Option (Unit × q_W)) (hr0 : ∀ w, q_J X S_R l mX11_turnsRound 1 q_tV 0 [(0, .ref 0)] [] w (rec0 w)) : ∀ w, q_J X S_R l mX11_turnsRound 1 q_tV 0 [(0, .ref 0)] [] w (fX11_turnsRound_h0 rec0 w) := by
  intro w
  refine q_aload_n 0 eX11_turnsRound_0 rfl rfl ?_
  refine q_getI eX11_turnsRound_1 fl_11_203 tR_0 rfl ?_
  refine q_if_le (tgt := 53) eX11_turnsRound_4 (by decide) (fun _ => ?_) (fun _ => ?_)
  · exact q_return eX11_turnsRound_53 rfl
  · refine q_aload_n 0 eX11_turnsRound_7 rfl rfl ?_
    refine q_getG (v := 20) eX11_turnsRound_8 fl_11_76 tR_0 rfl gR_0_37 ?_
    refine q_aload_n 0 eX11_turnsRound_11 rfl rfl ?_
    refine q_getI eX11_turnsRound_12 fl_11_203 tR_0 rfl ?_
    refine q_iconst eX11_turnsRound_15 kiconst_1 ?_
    refine q_isub eX11_turnsRound_16 ?_
    refine q_ltI (fun y1 => ?_)
    refine q_iald eX11_turnsRound_17 tR_20 nR_20 ?_
    refine q_iconst eX11_turnsRound_18 kiconst_1 ?_
    refine q_icmp_ne (tgt := 53) eX11_turnsRound_19 (by decide) (fun _ => ?_) (fun _ => ?_)
    · refine q_aload_n 0 eX11_turnsRound_22 rfl rfl ?_
      refine q_dup eX11_turnsRound_23 rfl ?_
      refine q_getI eX11_turnsRound_24 fl_11_203 tR_0 rfl ?_
      refine q_iconst eX11_turnsRound_27 kiconst_1 ?_
      refine q_isub eX11_turnsRound_28 ?_
      refine q_putI eX11_turnsRound_29 fp_11_203 tR_0 rfl ⟨rfl, rfl⟩ ?_
      refine q_ltW (fun w2 => ?_)
      refine q_aload_n 0 eX11_turnsRound_32 rfl rfl ?_
      refine q_dup eX11_turnsRound_33 rfl ?_
      refine q_getI eX11_turnsRound_34 fl_11_200 tR_0 rfl ?_
      refine q_iconst eX11_turnsRound_37 kiconst_1 ?_
      refine q_isub eX11_turnsRound_38 ?_
      refine q_putI eX11_turnsRound_39 fp_11_200 tR_0 rfl ⟨rfl, rfl⟩ ?_
      refine q_ltW (fun w3 => ?_)
      refine q_aload_n 0 eX11_turnsRound_42 rfl rfl ?_
      refine q_bipush eX11_turnsRound_43 kbipush_7 ?_
      refine q_iconst eX11_turnsRound_45 kiconst_0 ?_
      refine q_iconst eX11_turnsRound_46 kiconst_0 ?_
      refine q_callVV (As := [.int 7, .int 0, .int 0]) (st := []) eX11_turnsRound_47 cv_11_246 (kX11_emit X l 7 0 0 w3) tR_0 rfl (by decide) rfl rfl (Nat.le_of_ble_eq_true rfl) (by decide) (fun r4 w5 => ?_)
      refine q_goto (tgt := 0) eX11_turnsRound_50 (by decide) ?_
      exact q_sub [0] rfl (hr0 w5)
    · exact q_return eX11_turnsRound_53 rfl
set_option maxHeartbeats 4000000 in
set_option maxRecDepth 100000 in
theorem jX11_turnsRound_l0 (X : q_X) (l : Launch) : ∀ w, q_J X S_R l mX11_turnsRound 1 q_tV 0 [(0, .ref 0)] [] w (fX11_turnsRound_l0 w) := by
  exact q_it_ind (fun rc => ∀ w, q_J X S_R l mX11_turnsRound 1 q_tV 0 [(0, .ref 0)] [] w (rc w)) _ _ (fun _ => q_none) (fun rc hrc => jX11_turnsRound_h0 X l rc hrc) q_N
def fX11_turnsRound (w : q_W) : Option (Unit × q_W) :=
  fX11_turnsRound_l0 w
set_option maxHeartbeats 4000000 in
set_option maxRecDepth 100000 in
theorem kX11_turnsRound (X : q_X) (l : Launch) (w : q_W) : q_Ct X S_R l mX11_turnsRound 1 q_tV [.ref 0] w (fX11_turnsRound w) := by
  refine q_intro (lv := [(0, .ref 0)]) (by decide +kernel) rfl (Nat.le_of_ble_eq_true rfl) rfl ?_
  exact q_sub [0] rfl (jX11_turnsRound_l0 X l w)
def fX11_named_n68 (s0 : Int32) (s1 : Int32) (w : q_W) : Option (Unit × q_W) :=
  q_b (fX11_emit s1 s0 0 w) fun r1 w2 =>
  some ((), w2)
set_option maxHeartbeats 4000000 in
set_option maxRecDepth 100000 in
theorem jX11_named_n68 (X : q_X) (l : Launch) (s0 : Int32) (s1 : Int32) (w : q_W) : q_J X S_R l mX11_named 1 q_tV 68 [] [.int s0, .int s1, .ref 0] w (fX11_named_n68 s0 s1 w) := by
  refine q_iconst eX11_named_68 kiconst_0 ?_
  refine q_callVV (As := [.int s1, .int s0, .int 0]) (st := []) eX11_named_69 cv_11_246 (kX11_emit X l s1 s0 0 w) tR_0 rfl (by decide) rfl rfl (Nat.le_of_ble_eq_true rfl) (by decide) (fun r1 w2 => ?_)
  exact q_return eX11_named_72 rfl
def fX11_named_h7 (rec7 : Int32 → Int32 → q_W → Option (Unit × q_W)) (x1 : Int32) (x2 : Int32) (w : q_W) : Option (Unit × q_W) :=
  if x2 < 0 then
    q_b (fX11_wrong 4 x1 w) fun r1 w2 =>
    q_b (fX11_emit 0 0 0 w2) fun r3 w4 =>
    some ((), w4)
  else
    if q_inb x2 8 then
    if q_inb x1 503 then
    if (lg_cmp (w.2.2 15 (q_ix x2)) (w.2.2 6 (q_ix x1))) = 0 then
      q_lt (w.1 0 19) fun y5 =>
      if q_inb y5 2 then
      q_lt ((8 * (w.1 0 19)) + (w.1 8 (q_ix y5))) fun y6 =>
      if q_inb y6 16 then
      if (w.1 10 (q_ix y6)) ≤ x2 then
        if q_inb x2 8 then
        fX11_named_n68 (w.1 19 (q_ix x2)) 1 w
        else none
      else
        fX11_named_n68 x2 1 w
      else none
      else none
    else
      q_lt (x2 + (-1)) fun y7 =>
      rec7 x1 y7 w
    else none
    else none
def fX11_named_l7 : Int32 → Int32 → q_W → Option (Unit × q_W) := q_it q_N (fX11_named_h7) (fun _ _ _ => none)
set_option maxHeartbeats 4000000 in
set_option maxRecDepth 100000 in
theorem jX11_named_h7 (X : q_X) (l : Launch) (rec7 : Int32 → Int32 → q_W → Option (Unit × q_W)) (hr7 : ∀ x1 x2 w, q_J X S_R l mX11_named 1 q_tV 7 [(0, .ref 0), (1, .int x1), (2, .int x2)] [] w (rec7 x1 x2 w)) : ∀ x1 x2 w, q_J X S_R l mX11_named 1 q_tV 7 [(0, .ref 0), (1, .int x1), (2, .int x2)] [] w (fX11_named_h7 rec7 x1 x2 w) := by
  intro x1 x2 w
  refine q_iload_n 2 eX11_named_7 rfl rfl ?_
  refine q_if_lt (tgt := 79) eX11_named_8 (by decide) (fun _ => ?_) (fun _ => ?_)
  · refine q_aload_n 0 eX11_named_79 rfl rfl ?_
    refine q_iconst eX11_named_80 kiconst_4 ?_
    refine q_iload_n 1 eX11_named_81 rfl rfl ?_
    refine q_callVV (As := [.int 4, .int x1]) (st := []) eX11_named_82 cv_11_221 (kX11_wrong X l 4 x1 w) tR_0 rfl (by decide) rfl rfl (Nat.le_of_ble_eq_true rfl) (by decide) (fun r1 w2 => ?_)
    refine q_aload_n 0 eX11_named_85 rfl rfl ?_
    refine q_iconst eX11_named_86 kiconst_0 ?_
    refine q_iconst eX11_named_87 kiconst_0 ?_
    refine q_iconst eX11_named_88 kiconst_0 ?_
    refine q_callVV (As := [.int 0, .int 0, .int 0]) (st := []) eX11_named_89 cv_11_246 (kX11_emit X l 0 0 0 w2) tR_0 rfl (by decide) rfl rfl (Nat.le_of_ble_eq_true rfl) (by decide) (fun r3 w4 => ?_)
    exact q_return eX11_named_92 rfl
  · refine q_aload_n 0 eX11_named_11 rfl rfl ?_
    refine q_getG (v := 15) eX11_named_12 fl_11_61 tR_0 rfl gR_0_29 ?_
    refine q_iload_n 2 eX11_named_15 rfl rfl ?_
    refine q_lald eX11_named_16 tR_15 nR_15 ?_
    refine q_aload_n 0 eX11_named_17 rfl rfl ?_
    refine q_getG (v := 6) eX11_named_18 fl_11_30 tR_0 rfl gR_0_8 ?_
    refine q_iload_n 1 eX11_named_21 rfl rfl ?_
    refine q_lald eX11_named_22 tR_6 nR_6 ?_
    refine q_lcmp eX11_named_23 ?_
    refine q_if_eq (tgt := 30) eX11_named_24 (by decide) (fun _ => ?_) (fun _ => ?_)
    · refine q_aload_n 0 eX11_named_30 rfl rfl ?_
      refine q_iconst eX11_named_31 kiconst_1 ?_
      refine q_iload_n 2 eX11_named_32 rfl rfl ?_
      refine q_aload_n 0 eX11_named_33 rfl rfl ?_
      refine q_getG (v := 10) eX11_named_34 fl_11_46 tR_0 rfl gR_0_22 ?_
      refine q_bipush eX11_named_37 kbipush_8 ?_
      refine q_aload_n 0 eX11_named_39 rfl rfl ?_
      refine q_getI eX11_named_40 fl_11_209 tR_0 rfl ?_
      refine q_imul eX11_named_43 ?_
      refine q_aload_n 0 eX11_named_44 rfl rfl ?_
      refine q_getG (v := 8) eX11_named_45 fl_11_40 tR_0 rfl gR_0_20 ?_
      refine q_aload_n 0 eX11_named_48 rfl rfl ?_
      refine q_getI eX11_named_49 fl_11_209 tR_0 rfl ?_
      refine q_ltI (fun y5 => ?_)
      refine q_iald eX11_named_52 tR_8 nR_8 ?_
      refine q_iadd eX11_named_53 ?_
      refine q_ltI (fun y6 => ?_)
      refine q_iald eX11_named_54 tR_10 nR_10 ?_
      refine q_icmp_ge (tgt := 62) eX11_named_55 (by decide) (fun _ => ?_) (fun _ => ?_)
      · refine q_aload_n 0 eX11_named_62 rfl rfl ?_
        refine q_getG (v := 19) eX11_named_63 fl_11_73 tR_0 rfl gR_0_34 ?_
        refine q_iload_n 2 eX11_named_66 rfl rfl ?_
        refine q_iald eX11_named_67 tR_19 nR_19 ?_
        exact q_sub [] rfl (jX11_named_n68 X l (w.1 19 (q_ix x2)) 1 w)
      · refine q_iload_n 2 eX11_named_58 rfl rfl ?_
        refine q_goto (tgt := 68) eX11_named_59 (by decide) ?_
        exact q_sub [] rfl (jX11_named_n68 X l x2 1 w)
    · refine q_goto (tgt := 73) eX11_named_27 (by decide) ?_
      refine q_ltE (fun y7 hy7 => ?_)
      refine q_iinc (v := y7) (lv' := [(2, .int y7), (0, .ref 0), (1, .int x1)]) 2 eX11_named_73 rfl hy7 (by decide) rfl ?_
      refine q_goto (tgt := 7) eX11_named_76 (by decide) ?_
      exact q_sub [1, 2, 0] rfl (hr7 x1 y7 w)
set_option maxHeartbeats 4000000 in
set_option maxRecDepth 100000 in
theorem jX11_named_l7 (X : q_X) (l : Launch) : ∀ x1 x2 w, q_J X S_R l mX11_named 1 q_tV 7 [(0, .ref 0), (1, .int x1), (2, .int x2)] [] w (fX11_named_l7 x1 x2 w) := by
  exact q_it_ind (fun rc => ∀ x1 x2 w, q_J X S_R l mX11_named 1 q_tV 7 [(0, .ref 0), (1, .int x1), (2, .int x2)] [] w (rc x1 x2 w)) _ _ (fun _ _ _ => q_none) (fun rc hrc => jX11_named_h7 X l rc hrc) q_N
def fX11_named (a1 : Int32) (w : q_W) : Option (Unit × q_W) :=
  q_lt ((w.1 0 28) - 1) fun y1 =>
  fX11_named_l7 a1 y1 w
set_option maxHeartbeats 4000000 in
set_option maxRecDepth 100000 in
theorem kX11_named (X : q_X) (l : Launch) (a1 : Int32) (w : q_W) : q_Ct X S_R l mX11_named 1 q_tV [.ref 0, .int a1] w (fX11_named a1 w) := by
  refine q_intro (lv := [(0, .ref 0), (1, .int a1)]) (by decide +kernel) rfl (Nat.le_of_ble_eq_true rfl) rfl ?_
  refine q_aload_n 0 eX11_named_0 rfl rfl ?_
  refine q_getI eX11_named_1 fl_11_218 tR_0 rfl ?_
  refine q_iconst eX11_named_4 kiconst_1 ?_
  refine q_isub eX11_named_5 ?_
  refine q_ltI (fun y1 => ?_)
  refine q_istore_n (lv' := [(2, .int y1), (0, .ref 0), (1, .int a1)]) eX11_named_6 rfl (by decide) rfl ?_
  exact q_sub [1, 2, 0] rfl (jX11_named_l7 X l a1 y1 w)
def fX11_unit (w : q_W) : Option (Unit × q_W) :=
  q_b (fX11_is 2 w) fun r1 w2 =>
  if r1 = 0 then
    q_lt (w2.1 0 11) fun y3 =>
    q_b (fX11_must 1 w2) fun r4 w5 =>
    if (w5.1 0 13) = 0 then
      q_b (fX11_named y3 w5) fun r6 w7 =>
      some ((), w7)
    else
      some ((), w5)
  else
    q_lt (w2.1 0 11) fun y8 =>
    if q_inb y8 503 then
    q_b (fX11_emit 0 (w2.1 5 (q_ix y8)) 0 w2) fun r9 w10 =>
    q_b (fX11_next w10) fun r11 w12 =>
    some ((), w12)
    else none
set_option maxHeartbeats 4000000 in
set_option maxRecDepth 100000 in
theorem kX11_unit (X : q_X) (l : Launch) (w : q_W) : q_Ct X S_R l mX11_unit 3 q_tV [.ref 0] w (fX11_unit w) := by
  refine q_intro (lv := [(0, .ref 0)]) (by decide +kernel) rfl (Nat.le_of_ble_eq_true rfl) rfl ?_
  refine q_aload_n 0 eX11_unit_0 rfl rfl ?_
  refine q_iconst eX11_unit_1 kiconst_2 ?_
  refine q_callVI (As := [.int 2]) (st := []) eX11_unit_2 cv_11_191 (kX11_is X l 2 w) tR_0 rfl (by decide) rfl rfl (Nat.le_of_ble_eq_true rfl) (by decide) (fun r1 w2 => ?_)
  refine q_if_eq (tgt := 28) eX11_unit_5 (by decide) (fun _ => ?_) (fun _ => ?_)
  · refine q_aload_n 0 eX11_unit_28 rfl rfl ?_
    refine q_getI eX11_unit_29 fl_11_176 tR_0 rfl ?_
    refine q_ltI (fun y3 => ?_)
    refine q_istore_n (lv' := [(1, .int y3), (0, .ref 0)]) eX11_unit_32 rfl (by decide) rfl ?_
    refine q_aload_n 1 eX11_unit_33 rfl rfl ?_
    refine q_iconst eX11_unit_34 kiconst_1 ?_
    refine q_callVV (As := [.int 1]) (st := []) eX11_unit_35 cv_11_225 (kX11_must X l 1 w2) tR_0 rfl (by decide) rfl rfl (Nat.le_of_ble_eq_true rfl) (by decide) (fun r4 w5 => ?_)
    refine q_aload_n 1 eX11_unit_38 rfl rfl ?_
    refine q_getI eX11_unit_39 fl_11_173 tR_0 rfl ?_
    refine q_if_ne (tgt := 50) eX11_unit_42 (by decide) (fun _ => ?_) (fun _ => ?_)
    · refine q_aload_n 1 eX11_unit_45 rfl rfl ?_
      refine q_iload_n 0 eX11_unit_46 rfl rfl ?_
      refine q_callVV (As := [.int y3]) (st := []) eX11_unit_47 cv_11_287 (kX11_named X l y3 w5) tR_0 rfl (by decide) rfl rfl (Nat.le_of_ble_eq_true rfl) (by decide) (fun r6 w7 => ?_)
      exact q_return eX11_unit_50 rfl
    · exact q_return eX11_unit_50 rfl
  · refine q_aload_n 0 eX11_unit_8 rfl rfl ?_
    refine q_iconst eX11_unit_9 kiconst_0 ?_
    refine q_aload_n 0 eX11_unit_10 rfl rfl ?_
    refine q_getG (v := 5) eX11_unit_11 fl_11_27 tR_0 rfl gR_0_7 ?_
    refine q_aload_n 0 eX11_unit_14 rfl rfl ?_
    refine q_getI eX11_unit_15 fl_11_176 tR_0 rfl ?_
    refine q_ltI (fun y8 => ?_)
    refine q_iald eX11_unit_18 tR_5 nR_5 ?_
    refine q_iconst eX11_unit_19 kiconst_0 ?_
    refine q_callVV (As := [.int 0, .int (w2.1 5 (q_ix y8)), .int 0]) (st := []) eX11_unit_20 cv_11_246 (kX11_emit X l 0 (w2.1 5 (q_ix y8)) 0 w2) tR_0 rfl (by decide) rfl rfl (Nat.le_of_ble_eq_true rfl) (by decide) (fun r9 w10 => ?_)
    refine q_aload_n 0 eX11_unit_23 rfl rfl ?_
    refine q_callVV (As := []) (st := []) eX11_unit_24 cv_11_194 (kX11_next X l w10) tR_0 rfl (by decide) rfl rfl (Nat.le_of_ble_eq_true rfl) (by decide) (fun r11 w12 => ?_)
    exact q_return eX11_unit_27 rfl
def fX11_expression_n288 (rec9 : Int32 → Int32 → Int32 → q_W → Option (Unit × q_W)) (x1 : Int32) (x2 : Int32) (x3 : Int32) (s0 : Int32) (w : q_W) : Option (Unit × q_W) :=
  q_b (fX11_comesOut s0 w) fun r1 w2 =>
  q_lt (w2.1 0 11) fun y3 =>
  if q_inb y3 503 then
  q_lt (w2.1 0 38) fun y4 =>
  if q_inb y4 64 then
  q_lt (q_sI w2 20 (q_ix y4) (w2.1 3 (q_ix y3))) fun w5 =>
  q_lt (q_sI w5 0 38 ((w5.1 0 38) + 1)) fun w6 =>
  q_b (fX11_next w6) fun r7 w8 =>
  rec9 x1 x2 x3 w8
  else none
  else none
set_option maxHeartbeats 4000000 in
set_option maxRecDepth 100000 in
theorem jX11_expression_n288 (X : q_X) (l : Launch) (rec9 : Int32 → Int32 → Int32 → q_W → Option (Unit × q_W)) (hr9 : ∀ x1 x2 x3 w, q_J X S_R l mX11_expression 4 q_tV 9 [(0, .ref 0), (1, .int x1), (2, .int x2), (3, .int x3)] [] w (rec9 x1 x2 x3 w)) (x1 : Int32) (x2 : Int32) (x3 : Int32) (s0 : Int32) (w : q_W) : q_J X S_R l mX11_expression 4 q_tV 288 [(0, .ref 0), (1, .int x1), (2, .int x2), (3, .int x3)] [.int s0] w (fX11_expression_n288 rec9 x1 x2 x3 s0 w) := by
  refine q_istore (lv' := [(4, .int s0), (0, .ref 0), (1, .int x1), (2, .int x2), (3, .int x3)]) eX11_expression_288 (by decide) rfl ?_
  refine q_aload_n 1 eX11_expression_290 rfl rfl ?_
  refine q_iload 0 eX11_expression_291 rfl ?_
  refine q_callVV (As := [.int s0]) (st := []) eX11_expression_293 cv_11_283 (kX11_comesOut X l s0 w) tR_0 rfl (by decide) rfl rfl (Nat.le_of_ble_eq_true rfl) (by decide) (fun r1 w2 => ?_)
  refine q_aload_n 1 eX11_expression_296 rfl rfl ?_
  refine q_getG (v := 20) eX11_expression_297 fl_11_76 tR_0 rfl gR_0_37 ?_
  refine q_aload_n 1 eX11_expression_300 rfl rfl ?_
  refine q_getI eX11_expression_301 fl_11_203 tR_0 rfl ?_
  refine q_aload_n 1 eX11_expression_304 rfl rfl ?_
  refine q_getG (v := 3) eX11_expression_305 fl_11_20 tR_0 rfl gR_0_5 ?_
  refine q_aload_n 1 eX11_expression_308 rfl rfl ?_
  refine q_getI eX11_expression_309 fl_11_176 tR_0 rfl ?_
  refine q_ltI (fun y3 => ?_)
  refine q_iald eX11_expression_312 tR_3 nR_3 ?_
  refine q_ltI1 (fun y4 => ?_)
  refine q_iast eX11_expression_313 tR_20 nR_20 ?_
  refine q_ltW (fun w5 => ?_)
  refine q_aload_n 1 eX11_expression_314 rfl rfl ?_
  refine q_dup eX11_expression_315 rfl ?_
  refine q_getI eX11_expression_316 fl_11_203 tR_0 rfl ?_
  refine q_iconst eX11_expression_319 kiconst_1 ?_
  refine q_iadd eX11_expression_320 ?_
  refine q_putI eX11_expression_321 fp_11_203 tR_0 rfl ⟨rfl, rfl⟩ ?_
  refine q_ltW (fun w6 => ?_)
  refine q_aload_n 1 eX11_expression_324 rfl rfl ?_
  refine q_callVV (As := []) (st := []) eX11_expression_325 cv_11_194 (kX11_next X l w6) tR_0 rfl (by decide) rfl rfl (Nat.le_of_ble_eq_true rfl) (by decide) (fun r7 w8 => ?_)
  refine q_goto (tgt := 9) eX11_expression_328 (by decide) ?_
  exact q_sub [1, 2, 3, 4] rfl (hr9 x1 x2 x3 w8)
def fX11_expression_n287 (rec9 : Int32 → Int32 → Int32 → q_W → Option (Unit × q_W)) (x1 : Int32) (x2 : Int32) (x3 : Int32) (w : q_W) : Option (Unit × q_W) :=
  fX11_expression_n288 rec9 x1 x2 x3 0 w
set_option maxHeartbeats 4000000 in
set_option maxRecDepth 100000 in
theorem jX11_expression_n287 (X : q_X) (l : Launch) (rec9 : Int32 → Int32 → Int32 → q_W → Option (Unit × q_W)) (hr9 : ∀ x1 x2 x3 w, q_J X S_R l mX11_expression 4 q_tV 9 [(0, .ref 0), (1, .int x1), (2, .int x2), (3, .int x3)] [] w (rec9 x1 x2 x3 w)) (x1 : Int32) (x2 : Int32) (x3 : Int32) (w : q_W) : q_J X S_R l mX11_expression 4 q_tV 287 [(0, .ref 0), (1, .int x1), (2, .int x2), (3, .int x3)] [] w (fX11_expression_n287 rec9 x1 x2 x3 w) := by
  refine q_iconst eX11_expression_287 kiconst_0 ?_
  exact q_sub [0, 1, 2, 3] rfl (jX11_expression_n288 X l rec9 hr9 x1 x2 x3 0 w)
def fX11_expression_n247 (x1 : Int32) (w : q_W) : Option (Unit × q_W) :=
  q_b (fX11_comesOut 0 w) fun r1 w2 =>
  if (w2.1 0 13) = 0 then
    q_lt (q_sI w2 0 38 x1) fun w3 =>
    some ((), w3)
  else
    some ((), w2)
set_option maxHeartbeats 4000000 in
set_option maxRecDepth 100000 in
theorem jX11_expression_n247 (X : q_X) (l : Launch) (x1 : Int32) (w : q_W) : q_J X S_R l mX11_expression 4 q_tV 247 [(0, .ref 0), (1, .int x1)] [] w (fX11_expression_n247 x1 w) := by
  refine q_aload_n 0 eX11_expression_247 rfl rfl ?_
  refine q_iconst eX11_expression_248 kiconst_0 ?_
  refine q_callVV (As := [.int 0]) (st := []) eX11_expression_249 cv_11_283 (kX11_comesOut X l 0 w) tR_0 rfl (by decide) rfl rfl (Nat.le_of_ble_eq_true rfl) (by decide) (fun r1 w2 => ?_)
  refine q_aload_n 0 eX11_expression_252 rfl rfl ?_
  refine q_getI eX11_expression_253 fl_11_173 tR_0 rfl ?_
  refine q_if_ne (tgt := 264) eX11_expression_256 (by decide) (fun _ => ?_) (fun _ => ?_)
  · refine q_aload_n 0 eX11_expression_259 rfl rfl ?_
    refine q_iload_n 1 eX11_expression_260 rfl rfl ?_
    refine q_putI eX11_expression_261 fp_11_203 tR_0 rfl ⟨rfl, rfl⟩ ?_
    refine q_ltW (fun w3 => ?_)
    exact q_return eX11_expression_264 rfl
  · exact q_return eX11_expression_264 rfl
def fX11_expression_n233 (rec9 : Int32 → Int32 → Int32 → q_W → Option (Unit × q_W)) (x1 : Int32) (x2 : Int32) (s0 : Int32) (w : q_W) : Option (Unit × q_W) :=
  if s0 = 0 then
    if x2 ≤ 0 then
      fX11_expression_n247 x1 w
    else
      q_b (fX11_fail 1 w) fun r1 w2 =>
      fX11_expression_n247 x1 w2
  else
    q_b (fX11_is 8 w) fun r3 w4 =>
    if r3 = 0 then
      q_b (fX11_is 9 w4) fun r5 w6 =>
      if r5 = 0 then
        fX11_expression_n288 rec9 x1 x2 s0 1 w6
      else
        fX11_expression_n287 rec9 x1 x2 s0 w6
    else
      fX11_expression_n287 rec9 x1 x2 s0 w4
set_option maxHeartbeats 4000000 in
set_option maxRecDepth 100000 in
theorem jX11_expression_n233 (X : q_X) (l : Launch) (rec9 : Int32 → Int32 → Int32 → q_W → Option (Unit × q_W)) (hr9 : ∀ x1 x2 x3 w, q_J X S_R l mX11_expression 4 q_tV 9 [(0, .ref 0), (1, .int x1), (2, .int x2), (3, .int x3)] [] w (rec9 x1 x2 x3 w)) (x1 : Int32) (x2 : Int32) (s0 : Int32) (w : q_W) : q_J X S_R l mX11_expression 4 q_tV 233 [(0, .ref 0), (1, .int x1), (2, .int x2)] [.int s0] w (fX11_expression_n233 rec9 x1 x2 s0 w) := by
  refine q_istore_n (lv' := [(3, .int s0), (0, .ref 0), (1, .int x1), (2, .int x2)]) eX11_expression_233 rfl (by decide) rfl ?_
  refine q_iload_n 0 eX11_expression_234 rfl rfl ?_
  refine q_if_ne (tgt := 265) eX11_expression_235 (by decide) (fun _ => ?_) (fun _ => ?_)
  · refine q_iload_n 3 eX11_expression_238 rfl rfl ?_
    refine q_if_le (tgt := 247) eX11_expression_239 (by decide) (fun _ => ?_) (fun _ => ?_)
    · exact q_sub [1, 2] rfl (jX11_expression_n247 X l x1 w)
    · refine q_aload_n 1 eX11_expression_242 rfl rfl ?_
      refine q_iconst eX11_expression_243 kiconst_1 ?_
      refine q_callVV (As := [.int 1]) (st := []) eX11_expression_244 cv_11_188 (kX11_fail X l 1 w) tR_0 rfl (by decide) rfl rfl (Nat.le_of_ble_eq_true rfl) (by decide) (fun r1 w2 => ?_)
      exact q_sub [1, 2] rfl (jX11_expression_n247 X l x1 w2)
  · refine q_aload_n 1 eX11_expression_265 rfl rfl ?_
    refine q_bipush eX11_expression_266 kbipush_8 ?_
    refine q_callVI (As := [.int 8]) (st := []) eX11_expression_268 cv_11_191 (kX11_is X l 8 w) tR_0 rfl (by decide) rfl rfl (Nat.le_of_ble_eq_true rfl) (by decide) (fun r3 w4 => ?_)
    refine q_if_ne (tgt := 287) eX11_expression_271 (by decide) (fun _ => ?_) (fun _ => ?_)
    · refine q_aload_n 1 eX11_expression_274 rfl rfl ?_
      refine q_bipush eX11_expression_275 kbipush_9 ?_
      refine q_callVI (As := [.int 9]) (st := []) eX11_expression_277 cv_11_191 (kX11_is X l 9 w4) tR_0 rfl (by decide) rfl rfl (Nat.le_of_ble_eq_true rfl) (by decide) (fun r5 w6 => ?_)
      refine q_if_ne (tgt := 287) eX11_expression_280 (by decide) (fun _ => ?_) (fun _ => ?_)
      · refine q_iconst eX11_expression_283 kiconst_1 ?_
        refine q_goto (tgt := 288) eX11_expression_284 (by decide) ?_
        exact q_sub [1, 2, 3, 0] rfl (jX11_expression_n288 X l rec9 hr9 x1 x2 s0 1 w6)
      · exact q_sub [1, 2, 3, 0] rfl (jX11_expression_n287 X l rec9 hr9 x1 x2 s0 w6)
    · exact q_sub [1, 2, 3, 0] rfl (jX11_expression_n287 X l rec9 hr9 x1 x2 s0 w4)
def fX11_expression_n228 (rec9 : Int32 → Int32 → Int32 → q_W → Option (Unit × q_W)) (x1 : Int32) (x2 : Int32) (w : q_W) : Option (Unit × q_W) :=
  fX11_expression_n233 rec9 x1 x2 1 w
set_option maxHeartbeats 4000000 in
set_option maxRecDepth 100000 in
theorem jX11_expression_n228 (X : q_X) (l : Launch) (rec9 : Int32 → Int32 → Int32 → q_W → Option (Unit × q_W)) (hr9 : ∀ x1 x2 x3 w, q_J X S_R l mX11_expression 4 q_tV 9 [(0, .ref 0), (1, .int x1), (2, .int x2), (3, .int x3)] [] w (rec9 x1 x2 x3 w)) (x1 : Int32) (x2 : Int32) (w : q_W) : q_J X S_R l mX11_expression 4 q_tV 228 [(0, .ref 0), (1, .int x1), (2, .int x2)] [] w (fX11_expression_n228 rec9 x1 x2 w) := by
  refine q_iconst eX11_expression_228 kiconst_1 ?_
  refine q_goto (tgt := 233) eX11_expression_229 (by decide) ?_
  exact q_sub [0, 1, 2] rfl (jX11_expression_n233 X l rec9 hr9 x1 x2 1 w)
def fX11_expression_n183 (rec9 : Int32 → Int32 → Int32 → q_W → Option (Unit × q_W)) (x1 : Int32) (x2 : Int32) (w : q_W) : Option (Unit × q_W) :=
  q_b (fX11_is 8 w) fun r1 w2 =>
  if r1 = 0 then
    q_b (fX11_is 9 w2) fun r3 w4 =>
    if r3 = 0 then
      q_b (fX11_is 10 w4) fun r5 w6 =>
      if r5 = 0 then
        q_b (fX11_is 15 w6) fun r7 w8 =>
        if r7 = 0 then
          q_b (fX11_is 16 w8) fun r9 w10 =>
          if r9 = 0 then
            fX11_expression_n233 rec9 x1 x2 0 w10
          else
            fX11_expression_n228 rec9 x1 x2 w10
        else
          fX11_expression_n228 rec9 x1 x2 w8
      else
        fX11_expression_n228 rec9 x1 x2 w6
    else
      fX11_expression_n228 rec9 x1 x2 w4
  else
    fX11_expression_n228 rec9 x1 x2 w2
set_option maxHeartbeats 4000000 in
set_option maxRecDepth 100000 in
theorem jX11_expression_n183 (X : q_X) (l : Launch) (rec9 : Int32 → Int32 → Int32 → q_W → Option (Unit × q_W)) (hr9 : ∀ x1 x2 x3 w, q_J X S_R l mX11_expression 4 q_tV 9 [(0, .ref 0), (1, .int x1), (2, .int x2), (3, .int x3)] [] w (rec9 x1 x2 x3 w)) (x1 : Int32) (x2 : Int32) (w : q_W) : q_J X S_R l mX11_expression 4 q_tV 183 [(0, .ref 0), (1, .int x1), (2, .int x2)] [] w (fX11_expression_n183 rec9 x1 x2 w) := by
  refine q_aload_n 0 eX11_expression_183 rfl rfl ?_
  refine q_bipush eX11_expression_184 kbipush_8 ?_
  refine q_callVI (As := [.int 8]) (st := []) eX11_expression_186 cv_11_191 (kX11_is X l 8 w) tR_0 rfl (by decide) rfl rfl (Nat.le_of_ble_eq_true rfl) (by decide) (fun r1 w2 => ?_)
  refine q_if_ne (tgt := 228) eX11_expression_189 (by decide) (fun _ => ?_) (fun _ => ?_)
  · refine q_aload_n 0 eX11_expression_192 rfl rfl ?_
    refine q_bipush eX11_expression_193 kbipush_9 ?_
    refine q_callVI (As := [.int 9]) (st := []) eX11_expression_195 cv_11_191 (kX11_is X l 9 w2) tR_0 rfl (by decide) rfl rfl (Nat.le_of_ble_eq_true rfl) (by decide) (fun r3 w4 => ?_)
    refine q_if_ne (tgt := 228) eX11_expression_198 (by decide) (fun _ => ?_) (fun _ => ?_)
    · refine q_aload_n 0 eX11_expression_201 rfl rfl ?_
      refine q_bipush eX11_expression_202 kbipush_10 ?_
      refine q_callVI (As := [.int 10]) (st := []) eX11_expression_204 cv_11_191 (kX11_is X l 10 w4) tR_0 rfl (by decide) rfl rfl (Nat.le_of_ble_eq_true rfl) (by decide) (fun r5 w6 => ?_)
      refine q_if_ne (tgt := 228) eX11_expression_207 (by decide) (fun _ => ?_) (fun _ => ?_)
      · refine q_aload_n 0 eX11_expression_210 rfl rfl ?_
        refine q_bipush eX11_expression_211 kbipush_15 ?_
        refine q_callVI (As := [.int 15]) (st := []) eX11_expression_213 cv_11_191 (kX11_is X l 15 w6) tR_0 rfl (by decide) rfl rfl (Nat.le_of_ble_eq_true rfl) (by decide) (fun r7 w8 => ?_)
        refine q_if_ne (tgt := 228) eX11_expression_216 (by decide) (fun _ => ?_) (fun _ => ?_)
        · refine q_aload_n 0 eX11_expression_219 rfl rfl ?_
          refine q_bipush eX11_expression_220 kbipush_16 ?_
          refine q_callVI (As := [.int 16]) (st := []) eX11_expression_222 cv_11_191 (kX11_is X l 16 w8) tR_0 rfl (by decide) rfl rfl (Nat.le_of_ble_eq_true rfl) (by decide) (fun r9 w10 => ?_)
          refine q_if_eq (tgt := 232) eX11_expression_225 (by decide) (fun _ => ?_) (fun _ => ?_)
          · refine q_iconst eX11_expression_232 kiconst_0 ?_
            exact q_sub [0, 1, 2] rfl (jX11_expression_n233 X l rec9 hr9 x1 x2 0 w10)
          · exact q_sub [0, 1, 2] rfl (jX11_expression_n228 X l rec9 hr9 x1 x2 w10)
        · exact q_sub [0, 1, 2] rfl (jX11_expression_n228 X l rec9 hr9 x1 x2 w8)
      · exact q_sub [0, 1, 2] rfl (jX11_expression_n228 X l rec9 hr9 x1 x2 w6)
    · exact q_sub [0, 1, 2] rfl (jX11_expression_n228 X l rec9 hr9 x1 x2 w4)
  · exact q_sub [0, 1, 2] rfl (jX11_expression_n228 X l rec9 hr9 x1 x2 w2)
def fX11_expression_h131 (rec9 : Int32 → Int32 → Int32 → q_W → Option (Unit × q_W)) (rec131 : Int32 → Int32 → q_W → Option (Unit × q_W)) (x1 : Int32) (x2 : Int32) (w : q_W) : Option (Unit × q_W) :=
  q_b (fX11_is 7 w) fun r1 w2 =>
  if r1 = 0 then
    fX11_expression_n183 rec9 x1 x2 w2
  else
    if x2 ≤ 0 then
      fX11_expression_n183 rec9 x1 x2 w2
    else
      q_b (fX11_comesOut 0 w2) fun r3 w4 =>
      q_lt (q_sI w4 0 38 ((w4.1 0 38) - 1)) fun w5 =>
      q_lt (q_sI w5 0 12 ((w5.1 0 12) - 1)) fun w6 =>
      q_lt (x2 + (-1)) fun y7 =>
      q_b (fX11_next w6) fun r8 w9 =>
      q_b (fX11_turnsRound w9) fun r10 w11 =>
      rec131 x1 y7 w11
def fX11_expression_l131 (rec9 : Int32 → Int32 → Int32 → q_W → Option (Unit × q_W)) : Int32 → Int32 → q_W → Option (Unit × q_W) := q_it q_N (fX11_expression_h131 rec9) (fun _ _ _ => none)
set_option maxHeartbeats 4000000 in
set_option maxRecDepth 100000 in
theorem jX11_expression_h131 (X : q_X) (l : Launch) (rec9 : Int32 → Int32 → Int32 → q_W → Option (Unit × q_W)) (hr9 : ∀ x1 x2 x3 w, q_J X S_R l mX11_expression 4 q_tV 9 [(0, .ref 0), (1, .int x1), (2, .int x2), (3, .int x3)] [] w (rec9 x1 x2 x3 w)) (rec131 : Int32 → Int32 → q_W → Option (Unit × q_W)) (hr131 : ∀ x1 x2 w, q_J X S_R l mX11_expression 4 q_tV 131 [(0, .ref 0), (1, .int x1), (2, .int x2)] [] w (rec131 x1 x2 w)) : ∀ x1 x2 w, q_J X S_R l mX11_expression 4 q_tV 131 [(0, .ref 0), (1, .int x1), (2, .int x2)] [] w (fX11_expression_h131 rec9 rec131 x1 x2 w) := by
  intro x1 x2 w
  refine q_aload_n 0 eX11_expression_131 rfl rfl ?_
  refine q_bipush eX11_expression_132 kbipush_7 ?_
  refine q_callVI (As := [.int 7]) (st := []) eX11_expression_134 cv_11_191 (kX11_is X l 7 w) tR_0 rfl (by decide) rfl rfl (Nat.le_of_ble_eq_true rfl) (by decide) (fun r1 w2 => ?_)
  refine q_if_eq (tgt := 183) eX11_expression_137 (by decide) (fun _ => ?_) (fun _ => ?_)
  · exact q_sub [0, 1, 2] rfl (jX11_expression_n183 X l rec9 hr9 x1 x2 w2)
  · refine q_iload_n 2 eX11_expression_140 rfl rfl ?_
    refine q_if_le (tgt := 183) eX11_expression_141 (by decide) (fun _ => ?_) (fun _ => ?_)
    · exact q_sub [0, 1, 2] rfl (jX11_expression_n183 X l rec9 hr9 x1 x2 w2)
    · refine q_aload_n 0 eX11_expression_144 rfl rfl ?_
      refine q_iconst eX11_expression_145 kiconst_0 ?_
      refine q_callVV (As := [.int 0]) (st := []) eX11_expression_146 cv_11_283 (kX11_comesOut X l 0 w2) tR_0 rfl (by decide) rfl rfl (Nat.le_of_ble_eq_true rfl) (by decide) (fun r3 w4 => ?_)
      refine q_aload_n 0 eX11_expression_149 rfl rfl ?_
      refine q_dup eX11_expression_150 rfl ?_
      refine q_getI eX11_expression_151 fl_11_203 tR_0 rfl ?_
      refine q_iconst eX11_expression_154 kiconst_1 ?_
      refine q_isub eX11_expression_155 ?_
      refine q_putI eX11_expression_156 fp_11_203 tR_0 rfl ⟨rfl, rfl⟩ ?_
      refine q_ltW (fun w5 => ?_)
      refine q_aload_n 0 eX11_expression_159 rfl rfl ?_
      refine q_dup eX11_expression_160 rfl ?_
      refine q_getI eX11_expression_161 fl_11_200 tR_0 rfl ?_
      refine q_iconst eX11_expression_164 kiconst_1 ?_
      refine q_isub eX11_expression_165 ?_
      refine q_putI eX11_expression_166 fp_11_200 tR_0 rfl ⟨rfl, rfl⟩ ?_
      refine q_ltW (fun w6 => ?_)
      refine q_ltE (fun y7 hy7 => ?_)
      refine q_iinc (v := y7) (lv' := [(2, .int y7), (0, .ref 0), (1, .int x1)]) 2 eX11_expression_169 rfl hy7 (by decide) rfl ?_
      refine q_aload_n 1 eX11_expression_172 rfl rfl ?_
      refine q_callVV (As := []) (st := []) eX11_expression_173 cv_11_194 (kX11_next X l w6) tR_0 rfl (by decide) rfl rfl (Nat.le_of_ble_eq_true rfl) (by decide) (fun r8 w9 => ?_)
      refine q_aload_n 1 eX11_expression_176 rfl rfl ?_
      refine q_callVV (As := []) (st := []) eX11_expression_177 cv_11_280 (kX11_turnsRound X l w9) tR_0 rfl (by decide) rfl rfl (Nat.le_of_ble_eq_true rfl) (by decide) (fun r10 w11 => ?_)
      refine q_goto (tgt := 131) eX11_expression_180 (by decide) ?_
      exact q_sub [1, 2, 0] rfl (hr131 x1 y7 w11)
set_option maxHeartbeats 4000000 in
set_option maxRecDepth 100000 in
theorem jX11_expression_l131 (X : q_X) (l : Launch) (rec9 : Int32 → Int32 → Int32 → q_W → Option (Unit × q_W)) (hr9 : ∀ x1 x2 x3 w, q_J X S_R l mX11_expression 4 q_tV 9 [(0, .ref 0), (1, .int x1), (2, .int x2), (3, .int x3)] [] w (rec9 x1 x2 x3 w)) : ∀ x1 x2 w, q_J X S_R l mX11_expression 4 q_tV 131 [(0, .ref 0), (1, .int x1), (2, .int x2)] [] w (fX11_expression_l131 rec9 x1 x2 w) := by
  exact q_it_ind (fun rc => ∀ x1 x2 w, q_J X S_R l mX11_expression 4 q_tV 131 [(0, .ref 0), (1, .int x1), (2, .int x2)] [] w (rc x1 x2 w)) _ _ (fun _ _ _ => q_none) (fun rc hrc => jX11_expression_h131 X l rec9 hr9 rc hrc) q_N
def fX11_expression_n97 (rec9 : Int32 → Int32 → Int32 → q_W → Option (Unit × q_W)) (rec20 : Int32 → Int32 → q_W → Option (Unit × q_W)) (x1 : Int32) (x2 : Int32) (s0 : Int32) (s1 : Int32) (w : q_W) : Option (Unit × q_W) :=
  if q_inb s1 64 then
  q_lt (q_sI w 20 (q_ix s1) s0) fun w1 =>
  q_lt (q_sI w1 0 38 ((w1.1 0 38) + 1)) fun w2 =>
  q_b (fX11_next w2) fun r3 w4 =>
  rec20 x1 x2 w4
  else none
set_option maxHeartbeats 4000000 in
set_option maxRecDepth 100000 in
theorem jX11_expression_n97 (X : q_X) (l : Launch) (rec9 : Int32 → Int32 → Int32 → q_W → Option (Unit × q_W)) (rec20 : Int32 → Int32 → q_W → Option (Unit × q_W)) (hr9 : ∀ x1 x2 x3 w, q_J X S_R l mX11_expression 4 q_tV 9 [(0, .ref 0), (1, .int x1), (2, .int x2), (3, .int x3)] [] w (rec9 x1 x2 x3 w)) (hr20 : ∀ x1 x2 w, q_J X S_R l mX11_expression 4 q_tV 20 [(0, .ref 0), (1, .int x1), (2, .int x2)] [] w (rec20 x1 x2 w)) (x1 : Int32) (x2 : Int32) (s0 : Int32) (s1 : Int32) (w : q_W) : q_J X S_R l mX11_expression 4 q_tV 97 [(0, .ref 0), (1, .int x1), (2, .int x2)] [.int s0, .int s1, .ref 20] w (fX11_expression_n97 rec9 rec20 x1 x2 s0 s1 w) := by
  refine q_iast eX11_expression_97 tR_20 nR_20 ?_
  refine q_ltW (fun w1 => ?_)
  refine q_aload_n 0 eX11_expression_98 rfl rfl ?_
  refine q_dup eX11_expression_99 rfl ?_
  refine q_getI eX11_expression_100 fl_11_203 tR_0 rfl ?_
  refine q_iconst eX11_expression_103 kiconst_1 ?_
  refine q_iadd eX11_expression_104 ?_
  refine q_putI eX11_expression_105 fp_11_203 tR_0 rfl ⟨rfl, rfl⟩ ?_
  refine q_ltW (fun w2 => ?_)
  refine q_aload_n 0 eX11_expression_108 rfl rfl ?_
  refine q_callVV (As := []) (st := []) eX11_expression_109 cv_11_194 (kX11_next X l w2) tR_0 rfl (by decide) rfl rfl (Nat.le_of_ble_eq_true rfl) (by decide) (fun r3 w4 => ?_)
  refine q_goto (tgt := 20) eX11_expression_112 (by decide) ?_
  exact q_sub [0, 1, 2] rfl (hr20 x1 x2 w4)
def fX11_expression_n74 (rec9 : Int32 → Int32 → Int32 → q_W → Option (Unit × q_W)) (rec20 : Int32 → Int32 → q_W → Option (Unit × q_W)) (x1 : Int32) (x2 : Int32) (w : q_W) : Option (Unit × q_W) :=
  q_b (fX11_is 6 w) fun r1 w2 =>
  if r1 = 0 then
    fX11_expression_n97 rec9 rec20 x1 x2 1 (w.1 0 38) w2
  else
    fX11_expression_n97 rec9 rec20 x1 x2 6 (w.1 0 38) w2
set_option maxHeartbeats 4000000 in
set_option maxRecDepth 100000 in
theorem jX11_expression_n74 (X : q_X) (l : Launch) (rec9 : Int32 → Int32 → Int32 → q_W → Option (Unit × q_W)) (rec20 : Int32 → Int32 → q_W → Option (Unit × q_W)) (hr9 : ∀ x1 x2 x3 w, q_J X S_R l mX11_expression 4 q_tV 9 [(0, .ref 0), (1, .int x1), (2, .int x2), (3, .int x3)] [] w (rec9 x1 x2 x3 w)) (hr20 : ∀ x1 x2 w, q_J X S_R l mX11_expression 4 q_tV 20 [(0, .ref 0), (1, .int x1), (2, .int x2)] [] w (rec20 x1 x2 w)) (x1 : Int32) (x2 : Int32) (w : q_W) : q_J X S_R l mX11_expression 4 q_tV 74 [(0, .ref 0), (1, .int x1), (2, .int x2)] [] w (fX11_expression_n74 rec9 rec20 x1 x2 w) := by
  refine q_aload_n 0 eX11_expression_74 rfl rfl ?_
  refine q_getG (v := 20) eX11_expression_75 fl_11_76 tR_0 rfl gR_0_37 ?_
  refine q_aload_n 0 eX11_expression_78 rfl rfl ?_
  refine q_getI eX11_expression_79 fl_11_203 tR_0 rfl ?_
  refine q_aload_n 0 eX11_expression_82 rfl rfl ?_
  refine q_bipush eX11_expression_83 kbipush_6 ?_
  refine q_callVI (As := [.int 6]) (st := [.int (w.1 0 38), .ref 20]) eX11_expression_85 cv_11_191 (kX11_is X l 6 w) tR_0 rfl (by decide) rfl rfl (Nat.le_of_ble_eq_true rfl) (by decide) (fun r1 w2 => ?_)
  refine q_if_eq (tgt := 96) eX11_expression_88 (by decide) (fun _ => ?_) (fun _ => ?_)
  · refine q_iconst eX11_expression_96 kiconst_1 ?_
    exact q_sub [0, 1, 2] rfl (jX11_expression_n97 X l rec9 rec20 hr9 hr20 x1 x2 1 (w.1 0 38) w2)
  · refine q_bipush eX11_expression_91 kbipush_6 ?_
    refine q_goto (tgt := 97) eX11_expression_93 (by decide) ?_
    exact q_sub [0, 1, 2] rfl (jX11_expression_n97 X l rec9 rec20 hr9 hr20 x1 x2 6 (w.1 0 38) w2)
def fX11_expression_n52 (rec9 : Int32 → Int32 → Int32 → q_W → Option (Unit × q_W)) (rec20 : Int32 → Int32 → q_W → Option (Unit × q_W)) (x1 : Int32) (x2 : Int32) (w : q_W) : Option (Unit × q_W) :=
  q_lt (q_sI w 0 12 ((w.1 0 12) + 1)) fun w1 =>
  q_b (fX11_is 6 w1) fun r2 w3 =>
  if r2 = 0 then
    fX11_expression_n74 rec9 rec20 x1 x2 w3
  else
    q_lt (x2 + 1) fun y4 =>
    fX11_expression_n74 rec9 rec20 x1 y4 w3
set_option maxHeartbeats 4000000 in
set_option maxRecDepth 100000 in
theorem jX11_expression_n52 (X : q_X) (l : Launch) (rec9 : Int32 → Int32 → Int32 → q_W → Option (Unit × q_W)) (rec20 : Int32 → Int32 → q_W → Option (Unit × q_W)) (hr9 : ∀ x1 x2 x3 w, q_J X S_R l mX11_expression 4 q_tV 9 [(0, .ref 0), (1, .int x1), (2, .int x2), (3, .int x3)] [] w (rec9 x1 x2 x3 w)) (hr20 : ∀ x1 x2 w, q_J X S_R l mX11_expression 4 q_tV 20 [(0, .ref 0), (1, .int x1), (2, .int x2)] [] w (rec20 x1 x2 w)) (x1 : Int32) (x2 : Int32) (w : q_W) : q_J X S_R l mX11_expression 4 q_tV 52 [(0, .ref 0), (1, .int x1), (2, .int x2)] [] w (fX11_expression_n52 rec9 rec20 x1 x2 w) := by
  refine q_aload_n 0 eX11_expression_52 rfl rfl ?_
  refine q_dup eX11_expression_53 rfl ?_
  refine q_getI eX11_expression_54 fl_11_200 tR_0 rfl ?_
  refine q_iconst eX11_expression_57 kiconst_1 ?_
  refine q_iadd eX11_expression_58 ?_
  refine q_putI eX11_expression_59 fp_11_200 tR_0 rfl ⟨rfl, rfl⟩ ?_
  refine q_ltW (fun w1 => ?_)
  refine q_aload_n 0 eX11_expression_62 rfl rfl ?_
  refine q_bipush eX11_expression_63 kbipush_6 ?_
  refine q_callVI (As := [.int 6]) (st := []) eX11_expression_65 cv_11_191 (kX11_is X l 6 w1) tR_0 rfl (by decide) rfl rfl (Nat.le_of_ble_eq_true rfl) (by decide) (fun r2 w3 => ?_)
  refine q_if_eq (tgt := 74) eX11_expression_68 (by decide) (fun _ => ?_) (fun _ => ?_)
  · exact q_sub [0, 1, 2] rfl (jX11_expression_n74 X l rec9 rec20 hr9 hr20 x1 x2 w3)
  · refine q_ltE (fun y4 hy4 => ?_)
    refine q_iinc (v := y4) (lv' := [(2, .int y4), (0, .ref 0), (1, .int x1)]) 2 eX11_expression_71 rfl hy4 (by decide) rfl ?_
    exact q_sub [1, 2, 0] rfl (jX11_expression_n74 X l rec9 rec20 hr9 hr20 x1 y4 w3)
def fX11_expression_n38 (rec9 : Int32 → Int32 → Int32 → q_W → Option (Unit × q_W)) (rec20 : Int32 → Int32 → q_W → Option (Unit × q_W)) (x1 : Int32) (x2 : Int32) (w : q_W) : Option (Unit × q_W) :=
  if (w.1 0 12) = 6 then
    q_b (fX11_fail 2 w) fun r1 w2 =>
    fX11_expression_n52 rec9 rec20 x1 x2 w2
  else
    fX11_expression_n52 rec9 rec20 x1 x2 w
set_option maxHeartbeats 4000000 in
set_option maxRecDepth 100000 in
theorem jX11_expression_n38 (X : q_X) (l : Launch) (rec9 : Int32 → Int32 → Int32 → q_W → Option (Unit × q_W)) (rec20 : Int32 → Int32 → q_W → Option (Unit × q_W)) (hr9 : ∀ x1 x2 x3 w, q_J X S_R l mX11_expression 4 q_tV 9 [(0, .ref 0), (1, .int x1), (2, .int x2), (3, .int x3)] [] w (rec9 x1 x2 x3 w)) (hr20 : ∀ x1 x2 w, q_J X S_R l mX11_expression 4 q_tV 20 [(0, .ref 0), (1, .int x1), (2, .int x2)] [] w (rec20 x1 x2 w)) (x1 : Int32) (x2 : Int32) (w : q_W) : q_J X S_R l mX11_expression 4 q_tV 38 [(0, .ref 0), (1, .int x1), (2, .int x2)] [] w (fX11_expression_n38 rec9 rec20 x1 x2 w) := by
  refine q_aload_n 0 eX11_expression_38 rfl rfl ?_
  refine q_getI eX11_expression_39 fl_11_200 tR_0 rfl ?_
  refine q_bipush eX11_expression_42 kbipush_6 ?_
  refine q_icmp_ne (tgt := 52) eX11_expression_44 (by decide) (fun _ => ?_) (fun _ => ?_)
  · refine q_aload_n 0 eX11_expression_47 rfl rfl ?_
    refine q_iconst eX11_expression_48 kiconst_2 ?_
    refine q_callVV (As := [.int 2]) (st := []) eX11_expression_49 cv_11_188 (kX11_fail X l 2 w) tR_0 rfl (by decide) rfl rfl (Nat.le_of_ble_eq_true rfl) (by decide) (fun r1 w2 => ?_)
    exact q_sub [0, 1, 2] rfl (jX11_expression_n52 X l rec9 rec20 hr9 hr20 x1 x2 w2)
  · exact q_sub [0, 1, 2] rfl (jX11_expression_n52 X l rec9 rec20 hr9 hr20 x1 x2 w)
def fX11_expression_h20 (rec9 : Int32 → Int32 → Int32 → q_W → Option (Unit × q_W)) (rec20 : Int32 → Int32 → q_W → Option (Unit × q_W)) (x1 : Int32) (x2 : Int32) (w : q_W) : Option (Unit × q_W) :=
  q_b (fX11_is 6 w) fun r1 w2 =>
  if r1 = 0 then
    q_b (fX11_is 9 w2) fun r3 w4 =>
    if r3 = 0 then
      q_b (fX11_unit w4) fun r5 w6 =>
      if (w6.1 0 13) ≤ 0 then
        q_b (fX11_turnsRound w6) fun r7 w8 =>
        fX11_expression_l131 rec9 x1 x2 w8
      else
        some ((), w6)
    else
      fX11_expression_n38 rec9 rec20 x1 x2 w4
  else
    fX11_expression_n38 rec9 rec20 x1 x2 w2
def fX11_expression_l20 (rec9 : Int32 → Int32 → Int32 → q_W → Option (Unit × q_W)) : Int32 → Int32 → q_W → Option (Unit × q_W) := q_it q_N (fX11_expression_h20 rec9) (fun _ _ _ => none)
set_option maxHeartbeats 4000000 in
set_option maxRecDepth 100000 in
theorem jX11_expression_h20 (X : q_X) (l : Launch) (rec9 : Int32 → Int32 → Int32 → q_W → Option (Unit × q_W)) (hr9 : ∀ x1 x2 x3 w, q_J X S_R l mX11_expression 4 q_tV 9 [(0, .ref 0), (1, .int x1), (2, .int x2), (3, .int x3)] [] w (rec9 x1 x2 x3 w)) (rec20 : Int32 → Int32 → q_W → Option (Unit × q_W)) (hr20 : ∀ x1 x2 w, q_J X S_R l mX11_expression 4 q_tV 20 [(0, .ref 0), (1, .int x1), (2, .int x2)] [] w (rec20 x1 x2 w)) : ∀ x1 x2 w, q_J X S_R l mX11_expression 4 q_tV 20 [(0, .ref 0), (1, .int x1), (2, .int x2)] [] w (fX11_expression_h20 rec9 rec20 x1 x2 w) := by
  intro x1 x2 w
  refine q_aload_n 0 eX11_expression_20 rfl rfl ?_
  refine q_bipush eX11_expression_21 kbipush_6 ?_
  refine q_callVI (As := [.int 6]) (st := []) eX11_expression_23 cv_11_191 (kX11_is X l 6 w) tR_0 rfl (by decide) rfl rfl (Nat.le_of_ble_eq_true rfl) (by decide) (fun r1 w2 => ?_)
  refine q_if_ne (tgt := 38) eX11_expression_26 (by decide) (fun _ => ?_) (fun _ => ?_)
  · refine q_aload_n 0 eX11_expression_29 rfl rfl ?_
    refine q_bipush eX11_expression_30 kbipush_9 ?_
    refine q_callVI (As := [.int 9]) (st := []) eX11_expression_32 cv_11_191 (kX11_is X l 9 w2) tR_0 rfl (by decide) rfl rfl (Nat.le_of_ble_eq_true rfl) (by decide) (fun r3 w4 => ?_)
    refine q_if_eq (tgt := 115) eX11_expression_35 (by decide) (fun _ => ?_) (fun _ => ?_)
    · refine q_aload_n 0 eX11_expression_115 rfl rfl ?_
      refine q_callVV (As := []) (st := []) eX11_expression_116 cv_11_277 (kX11_unit X l w4) tR_0 rfl (by decide) rfl rfl (Nat.le_of_ble_eq_true rfl) (by decide) (fun r5 w6 => ?_)
      refine q_aload_n 0 eX11_expression_119 rfl rfl ?_
      refine q_getI eX11_expression_120 fl_11_173 tR_0 rfl ?_
      refine q_if_le (tgt := 127) eX11_expression_123 (by decide) (fun _ => ?_) (fun _ => ?_)
      · refine q_aload_n 0 eX11_expression_127 rfl rfl ?_
        refine q_callVV (As := []) (st := []) eX11_expression_128 cv_11_280 (kX11_turnsRound X l w6) tR_0 rfl (by decide) rfl rfl (Nat.le_of_ble_eq_true rfl) (by decide) (fun r7 w8 => ?_)
        exact q_sub [0, 1, 2] rfl (jX11_expression_l131 X l rec9 hr9 x1 x2 w8)
      · exact q_return eX11_expression_126 rfl
    · exact q_sub [0, 1, 2] rfl (jX11_expression_n38 X l rec9 rec20 hr9 hr20 x1 x2 w4)
  · exact q_sub [0, 1, 2] rfl (jX11_expression_n38 X l rec9 rec20 hr9 hr20 x1 x2 w2)
set_option maxHeartbeats 4000000 in
set_option maxRecDepth 100000 in
theorem jX11_expression_l20 (X : q_X) (l : Launch) (rec9 : Int32 → Int32 → Int32 → q_W → Option (Unit × q_W)) (hr9 : ∀ x1 x2 x3 w, q_J X S_R l mX11_expression 4 q_tV 9 [(0, .ref 0), (1, .int x1), (2, .int x2), (3, .int x3)] [] w (rec9 x1 x2 x3 w)) : ∀ x1 x2 w, q_J X S_R l mX11_expression 4 q_tV 20 [(0, .ref 0), (1, .int x1), (2, .int x2)] [] w (fX11_expression_l20 rec9 x1 x2 w) := by
  exact q_it_ind (fun rc => ∀ x1 x2 w, q_J X S_R l mX11_expression 4 q_tV 20 [(0, .ref 0), (1, .int x1), (2, .int x2)] [] w (rc x1 x2 w)) _ _ (fun _ _ _ => q_none) (fun rc hrc => jX11_expression_h20 X l rec9 hr9 rc hrc) q_N
def fX11_expression_h9 (rec9 : Int32 → Int32 → Int32 → q_W → Option (Unit × q_W)) (x1 : Int32) (x2 : Int32) (x3 : Int32) (w : q_W) : Option (Unit × q_W) :=
  if x3 = 0 then
    some ((), w)
  else
    if (w.1 0 13) = 0 then
      fX11_expression_l20 rec9 x1 x2 w
    else
      some ((), w)
def fX11_expression_l9 : Int32 → Int32 → Int32 → q_W → Option (Unit × q_W) := q_it q_N (fX11_expression_h9) (fun _ _ _ _ => none)
set_option maxHeartbeats 4000000 in
set_option maxRecDepth 100000 in
theorem jX11_expression_h9 (X : q_X) (l : Launch) (rec9 : Int32 → Int32 → Int32 → q_W → Option (Unit × q_W)) (hr9 : ∀ x1 x2 x3 w, q_J X S_R l mX11_expression 4 q_tV 9 [(0, .ref 0), (1, .int x1), (2, .int x2), (3, .int x3)] [] w (rec9 x1 x2 x3 w)) : ∀ x1 x2 x3 w, q_J X S_R l mX11_expression 4 q_tV 9 [(0, .ref 0), (1, .int x1), (2, .int x2), (3, .int x3)] [] w (fX11_expression_h9 rec9 x1 x2 x3 w) := by
  intro x1 x2 x3 w
  refine q_iload_n 3 eX11_expression_9 rfl rfl ?_
  refine q_if_eq (tgt := 331) eX11_expression_10 (by decide) (fun _ => ?_) (fun _ => ?_)
  · exact q_return eX11_expression_331 rfl
  · refine q_aload_n 0 eX11_expression_13 rfl rfl ?_
    refine q_getI eX11_expression_14 fl_11_173 tR_0 rfl ?_
    refine q_if_ne (tgt := 331) eX11_expression_17 (by decide) (fun _ => ?_) (fun _ => ?_)
    · exact q_sub [0, 1, 2] rfl (jX11_expression_l20 X l rec9 hr9 x1 x2 w)
    · exact q_return eX11_expression_331 rfl
set_option maxHeartbeats 4000000 in
set_option maxRecDepth 100000 in
theorem jX11_expression_l9 (X : q_X) (l : Launch) : ∀ x1 x2 x3 w, q_J X S_R l mX11_expression 4 q_tV 9 [(0, .ref 0), (1, .int x1), (2, .int x2), (3, .int x3)] [] w (fX11_expression_l9 x1 x2 x3 w) := by
  exact q_it_ind (fun rc => ∀ x1 x2 x3 w, q_J X S_R l mX11_expression 4 q_tV 9 [(0, .ref 0), (1, .int x1), (2, .int x2), (3, .int x3)] [] w (rc x1 x2 x3 w)) _ _ (fun _ _ _ _ => q_none) (fun rc hrc => jX11_expression_h9 X l rc hrc) q_N
def fX11_expression (w : q_W) : Option (Unit × q_W) :=
  q_lt (w.1 0 38) fun y1 =>
  fX11_expression_l9 y1 0 1 w
set_option maxHeartbeats 4000000 in
set_option maxRecDepth 100000 in
theorem kX11_expression (X : q_X) (l : Launch) (w : q_W) : q_Ct X S_R l mX11_expression 4 q_tV [.ref 0] w (fX11_expression w) := by
  refine q_intro (lv := [(0, .ref 0)]) (by decide +kernel) rfl (Nat.le_of_ble_eq_true rfl) rfl ?_
  refine q_aload_n 0 eX11_expression_0 rfl rfl ?_
  refine q_getI eX11_expression_1 fl_11_203 tR_0 rfl ?_
  refine q_ltI (fun y1 => ?_)
  refine q_istore_n (lv' := [(1, .int y1), (0, .ref 0)]) eX11_expression_4 rfl (by decide) rfl ?_
  refine q_iconst eX11_expression_5 kiconst_0 ?_
  refine q_istore_n (lv' := [(2, .int 0), (1, .int y1), (0, .ref 0)]) eX11_expression_6 rfl (by decide) rfl ?_
  refine q_iconst eX11_expression_7 kiconst_1 ?_
  refine q_istore_n (lv' := [(3, .int 1), (2, .int 0), (1, .int y1), (0, .ref 0)]) eX11_expression_8 rfl (by decide) rfl ?_
  exact q_sub [3, 2, 1, 0] rfl (jX11_expression_l9 X l y1 0 1 w)
def fX11_tellDo_n160 (x2 : Int32) (x3 : Int32) (w : q_W) : Option (Unit × q_W) :=
  q_b (fX11_emit 17 x3 x2 w) fun r1 w2 =>
  some ((), w2)
set_option maxHeartbeats 4000000 in
set_option maxRecDepth 100000 in
theorem jX11_tellDo_n160 (X : q_X) (l : Launch) (x2 : Int32) (x3 : Int32) (w : q_W) : q_J X S_R l mX11_tellDo 5 q_tV 160 [(0, .ref 0), (2, .int x2), (3, .int x3)] [] w (fX11_tellDo_n160 x2 x3 w) := by
  refine q_aload_n 0 eX11_tellDo_160 rfl rfl ?_
  refine q_bipush eX11_tellDo_161 kbipush_17 ?_
  refine q_iload_n 2 eX11_tellDo_163 rfl rfl ?_
  refine q_iload_n 1 eX11_tellDo_164 rfl rfl ?_
  refine q_callVV (As := [.int 17, .int x3, .int x2]) (st := []) eX11_tellDo_165 cv_11_246 (kX11_emit X l 17 x3 x2 w) tR_0 rfl (by decide) rfl rfl (Nat.le_of_ble_eq_true rfl) (by decide) (fun r1 w2 => ?_)
  exact q_return eX11_tellDo_168 rfl
def fX11_tellDo_n116 (rec83 : Int32 → Int32 → Int32 → Int32 → q_W → Option (Unit × q_W)) (x1 : Int32) (x2 : Int32) (x3 : Int32) (x4 : Int32) (w : q_W) : Option (Unit × q_W) :=
  q_lt (x4 + (-1)) fun y1 =>
  rec83 x1 x2 x3 y1 w
set_option maxHeartbeats 4000000 in
set_option maxRecDepth 100000 in
theorem jX11_tellDo_n116 (X : q_X) (l : Launch) (rec83 : Int32 → Int32 → Int32 → Int32 → q_W → Option (Unit × q_W)) (hr83 : ∀ x1 x2 x3 x4 w, q_J X S_R l mX11_tellDo 5 q_tV 83 [(0, .ref 0), (1, .int x1), (2, .int x2), (3, .int x3), (4, .int x4)] [] w (rec83 x1 x2 x3 x4 w)) (x1 : Int32) (x2 : Int32) (x3 : Int32) (x4 : Int32) (w : q_W) : q_J X S_R l mX11_tellDo 5 q_tV 116 [(0, .ref 0), (1, .int x1), (2, .int x2), (3, .int x3), (4, .int x4)] [] w (fX11_tellDo_n116 rec83 x1 x2 x3 x4 w) := by
  refine q_ltE (fun y1 hy1 => ?_)
  refine q_iinc (v := y1) (lv' := [(4, .int y1), (0, .ref 0), (1, .int x1), (2, .int x2), (3, .int x3)]) 4 eX11_tellDo_116 rfl hy1 (by decide) rfl ?_
  refine q_goto (tgt := 83) eX11_tellDo_119 (by decide) ?_
  exact q_sub [1, 2, 3, 4, 0] rfl (hr83 x1 x2 x3 y1 w)
def fX11_tellDo_h83 (rec83 : Int32 → Int32 → Int32 → Int32 → q_W → Option (Unit × q_W)) (x1 : Int32) (x2 : Int32) (x3 : Int32) (x4 : Int32) (w : q_W) : Option (Unit × q_W) :=
  if x4 < 0 then
    if x3 = (-1) then
      q_b (fX11_wrong 4 x1 w) fun r1 w2 =>
      fX11_tellDo_n160 x2 x3 w2
    else
      q_lt ((8 * (w.1 0 19)) + x3) fun y3 =>
      if q_inb y3 16 then
      if (w.1 10 (q_ix y3)) = x2 then
        fX11_tellDo_n160 x2 x3 w
      else
        q_b (fX11_wrong 5 x1 w) fun r4 w5 =>
        fX11_tellDo_n160 x2 x3 w5
      else none
  else
    q_lt ((8 * (w.1 0 19)) + x4) fun y6 =>
    if q_inb y6 16 then
    if q_inb x1 503 then
    if (lg_cmp (w.2.2 9 (q_ix y6)) (w.2.2 6 (q_ix x1))) = 0 then
      fX11_tellDo_n116 rec83 x1 x2 x4 x4 w
    else
      fX11_tellDo_n116 rec83 x1 x2 x3 x4 w
    else none
    else none
def fX11_tellDo_l83 : Int32 → Int32 → Int32 → Int32 → q_W → Option (Unit × q_W) := q_it q_N (fX11_tellDo_h83) (fun _ _ _ _ _ => none)
set_option maxHeartbeats 4000000 in
set_option maxRecDepth 100000 in
theorem jX11_tellDo_h83 (X : q_X) (l : Launch) (rec83 : Int32 → Int32 → Int32 → Int32 → q_W → Option (Unit × q_W)) (hr83 : ∀ x1 x2 x3 x4 w, q_J X S_R l mX11_tellDo 5 q_tV 83 [(0, .ref 0), (1, .int x1), (2, .int x2), (3, .int x3), (4, .int x4)] [] w (rec83 x1 x2 x3 x4 w)) : ∀ x1 x2 x3 x4 w, q_J X S_R l mX11_tellDo 5 q_tV 83 [(0, .ref 0), (1, .int x1), (2, .int x2), (3, .int x3), (4, .int x4)] [] w (fX11_tellDo_h83 rec83 x1 x2 x3 x4 w) := by
  intro x1 x2 x3 x4 w
  refine q_iload 4 eX11_tellDo_83 rfl ?_
  refine q_if_lt (tgt := 122) eX11_tellDo_85 (by decide) (fun _ => ?_) (fun _ => ?_)
  · refine q_iload_n 3 eX11_tellDo_122 rfl rfl ?_
    refine q_iconst eX11_tellDo_123 kiconst_m1 ?_
    refine q_icmp_ne (tgt := 136) eX11_tellDo_124 (by decide) (fun _ => ?_) (fun _ => ?_)
    · refine q_aload_n 0 eX11_tellDo_127 rfl rfl ?_
      refine q_iconst eX11_tellDo_128 kiconst_4 ?_
      refine q_iload_n 1 eX11_tellDo_129 rfl rfl ?_
      refine q_callVV (As := [.int 4, .int x1]) (st := []) eX11_tellDo_130 cv_11_221 (kX11_wrong X l 4 x1 w) tR_0 rfl (by decide) rfl rfl (Nat.le_of_ble_eq_true rfl) (by decide) (fun r1 w2 => ?_)
      refine q_goto (tgt := 160) eX11_tellDo_133 (by decide) ?_
      exact q_sub [0, 2, 3] rfl (jX11_tellDo_n160 X l x2 x3 w2)
    · refine q_aload_n 0 eX11_tellDo_136 rfl rfl ?_
      refine q_getG (v := 10) eX11_tellDo_137 fl_11_46 tR_0 rfl gR_0_22 ?_
      refine q_bipush eX11_tellDo_140 kbipush_8 ?_
      refine q_aload_n 0 eX11_tellDo_142 rfl rfl ?_
      refine q_getI eX11_tellDo_143 fl_11_209 tR_0 rfl ?_
      refine q_imul eX11_tellDo_146 ?_
      refine q_iload_n 3 eX11_tellDo_147 rfl rfl ?_
      refine q_iadd eX11_tellDo_148 ?_
      refine q_ltI (fun y3 => ?_)
      refine q_iald eX11_tellDo_149 tR_10 nR_10 ?_
      refine q_iload_n 2 eX11_tellDo_150 rfl rfl ?_
      refine q_icmp_eq (tgt := 160) eX11_tellDo_151 (by decide) (fun _ => ?_) (fun _ => ?_)
      · exact q_sub [0, 2, 3] rfl (jX11_tellDo_n160 X l x2 x3 w)
      · refine q_aload_n 0 eX11_tellDo_154 rfl rfl ?_
        refine q_iconst eX11_tellDo_155 kiconst_5 ?_
        refine q_iload_n 1 eX11_tellDo_156 rfl rfl ?_
        refine q_callVV (As := [.int 5, .int x1]) (st := []) eX11_tellDo_157 cv_11_221 (kX11_wrong X l 5 x1 w) tR_0 rfl (by decide) rfl rfl (Nat.le_of_ble_eq_true rfl) (by decide) (fun r4 w5 => ?_)
        exact q_sub [0, 2, 3] rfl (jX11_tellDo_n160 X l x2 x3 w5)
  · refine q_aload_n 0 eX11_tellDo_88 rfl rfl ?_
    refine q_getG (v := 9) eX11_tellDo_89 fl_11_43 tR_0 rfl gR_0_21 ?_
    refine q_bipush eX11_tellDo_92 kbipush_8 ?_
    refine q_aload_n 0 eX11_tellDo_94 rfl rfl ?_
    refine q_getI eX11_tellDo_95 fl_11_209 tR_0 rfl ?_
    refine q_imul eX11_tellDo_98 ?_
    refine q_iload 4 eX11_tellDo_99 rfl ?_
    refine q_iadd eX11_tellDo_101 ?_
    refine q_ltI (fun y6 => ?_)
    refine q_lald eX11_tellDo_102 tR_9 nR_9 ?_
    refine q_aload_n 0 eX11_tellDo_103 rfl rfl ?_
    refine q_getG (v := 6) eX11_tellDo_104 fl_11_30 tR_0 rfl gR_0_8 ?_
    refine q_iload_n 1 eX11_tellDo_107 rfl rfl ?_
    refine q_lald eX11_tellDo_108 tR_6 nR_6 ?_
    refine q_lcmp eX11_tellDo_109 ?_
    refine q_if_ne (tgt := 116) eX11_tellDo_110 (by decide) (fun _ => ?_) (fun _ => ?_)
    · refine q_iload 4 eX11_tellDo_113 rfl ?_
      refine q_istore_n (lv' := [(3, .int x4), (0, .ref 0), (1, .int x1), (2, .int x2), (4, .int x4)]) eX11_tellDo_115 rfl (by decide) rfl ?_
      exact q_sub [1, 2, 3, 0, 4] rfl (jX11_tellDo_n116 X l rec83 hr83 x1 x2 x4 x4 w)
    · exact q_sub [0, 1, 2, 3, 4] rfl (jX11_tellDo_n116 X l rec83 hr83 x1 x2 x3 x4 w)
set_option maxHeartbeats 4000000 in
set_option maxRecDepth 100000 in
theorem jX11_tellDo_l83 (X : q_X) (l : Launch) : ∀ x1 x2 x3 x4 w, q_J X S_R l mX11_tellDo 5 q_tV 83 [(0, .ref 0), (1, .int x1), (2, .int x2), (3, .int x3), (4, .int x4)] [] w (fX11_tellDo_l83 x1 x2 x3 x4 w) := by
  exact q_it_ind (fun rc => ∀ x1 x2 x3 x4 w, q_J X S_R l mX11_tellDo 5 q_tV 83 [(0, .ref 0), (1, .int x1), (2, .int x2), (3, .int x3), (4, .int x4)] [] w (rc x1 x2 x3 x4 w)) _ _ (fun _ _ _ _ _ => q_none) (fun rc hrc => jX11_tellDo_h83 X l rc hrc) q_N
def fX11_tellDo_n55 (x1 : Int32) (x2 : Int32) (w : q_W) : Option (Unit × q_W) :=
  q_b (fX11_must 4 w) fun r1 w2 =>
  if (w2.1 0 13) ≤ 0 then
    q_lt (w2.1 0 19) fun y3 =>
    if q_inb y3 2 then
    q_lt ((w2.1 8 (q_ix y3)) - 1) fun y4 =>
    fX11_tellDo_l83 x1 x2 (-1) y4 w2
    else none
  else
    some ((), w2)
set_option maxHeartbeats 4000000 in
set_option maxRecDepth 100000 in
theorem jX11_tellDo_n55 (X : q_X) (l : Launch) (x1 : Int32) (x2 : Int32) (w : q_W) : q_J X S_R l mX11_tellDo 5 q_tV 55 [(0, .ref 0), (1, .int x1), (2, .int x2)] [] w (fX11_tellDo_n55 x1 x2 w) := by
  refine q_aload_n 0 eX11_tellDo_55 rfl rfl ?_
  refine q_iconst eX11_tellDo_56 kiconst_4 ?_
  refine q_callVV (As := [.int 4]) (st := []) eX11_tellDo_57 cv_11_225 (kX11_must X l 4 w) tR_0 rfl (by decide) rfl rfl (Nat.le_of_ble_eq_true rfl) (by decide) (fun r1 w2 => ?_)
  refine q_aload_n 0 eX11_tellDo_60 rfl rfl ?_
  refine q_getI eX11_tellDo_61 fl_11_173 tR_0 rfl ?_
  refine q_if_le (tgt := 68) eX11_tellDo_64 (by decide) (fun _ => ?_) (fun _ => ?_)
  · refine q_iconst eX11_tellDo_68 kiconst_m1 ?_
    refine q_istore_n (lv' := [(3, .int (-1)), (0, .ref 0), (1, .int x1), (2, .int x2)]) eX11_tellDo_69 rfl (by decide) rfl ?_
    refine q_aload_n 1 eX11_tellDo_70 rfl rfl ?_
    refine q_getG (v := 8) eX11_tellDo_71 fl_11_40 tR_0 rfl gR_0_20 ?_
    refine q_aload_n 1 eX11_tellDo_74 rfl rfl ?_
    refine q_getI eX11_tellDo_75 fl_11_209 tR_0 rfl ?_
    refine q_ltI (fun y3 => ?_)
    refine q_iald eX11_tellDo_78 tR_8 nR_8 ?_
    refine q_iconst eX11_tellDo_79 kiconst_1 ?_
    refine q_isub eX11_tellDo_80 ?_
    refine q_ltI (fun y4 => ?_)
    refine q_istore (lv' := [(4, .int y4), (3, .int (-1)), (0, .ref 0), (1, .int x1), (2, .int x2)]) eX11_tellDo_81 (by decide) rfl ?_
    exact q_sub [2, 3, 4, 1, 0] rfl (jX11_tellDo_l83 X l x1 x2 (-1) y4 w2)
  · exact q_return eX11_tellDo_67 rfl
def fX11_tellDo_n49 (x1 : Int32) (x2 : Int32) (w : q_W) : Option (Unit × q_W) :=
  q_b (fX11_must 7 w) fun r1 w2 =>
  fX11_tellDo_n55 x1 x2 w2
set_option maxHeartbeats 4000000 in
set_option maxRecDepth 100000 in
theorem jX11_tellDo_n49 (X : q_X) (l : Launch) (x1 : Int32) (x2 : Int32) (w : q_W) : q_J X S_R l mX11_tellDo 5 q_tV 49 [(0, .ref 0), (1, .int x1), (2, .int x2)] [] w (fX11_tellDo_n49 x1 x2 w) := by
  refine q_aload_n 0 eX11_tellDo_49 rfl rfl ?_
  refine q_bipush eX11_tellDo_50 kbipush_7 ?_
  refine q_callVV (As := [.int 7]) (st := []) eX11_tellDo_52 cv_11_225 (kX11_must X l 7 w) tR_0 rfl (by decide) rfl rfl (Nat.le_of_ble_eq_true rfl) (by decide) (fun r1 w2 => ?_)
  exact q_sub [0, 1, 2] rfl (jX11_tellDo_n55 X l x1 x2 w2)
def fX11_tellDo (w : q_W) : Option (Unit × q_W) :=
  q_lt (w.1 0 11) fun y1 =>
  q_b (fX11_must 1 w) fun r2 w3 =>
  q_b (fX11_is 6 w3) fun r4 w5 =>
  if r4 = 0 then
    fX11_tellDo_n55 y1 0 w5
  else
    q_b (fX11_next w5) fun r6 w7 =>
    q_b (fX11_expression w7) fun r8 w9 =>
    q_b (fX11_is 5 w9) fun r10 w11 =>
    if r10 = 0 then
      fX11_tellDo_n49 y1 1 w11
    else
      q_b (fX11_next w11) fun r12 w13 =>
      q_b (fX11_expression w13) fun r14 w15 =>
      fX11_tellDo_n49 y1 2 w15
set_option maxHeartbeats 4000000 in
set_option maxRecDepth 100000 in
theorem kX11_tellDo (X : q_X) (l : Launch) (w : q_W) : q_Ct X S_R l mX11_tellDo 5 q_tV [.ref 0] w (fX11_tellDo w) := by
  refine q_intro (lv := [(0, .ref 0)]) (by decide +kernel) rfl (Nat.le_of_ble_eq_true rfl) rfl ?_
  refine q_aload_n 0 eX11_tellDo_0 rfl rfl ?_
  refine q_getI eX11_tellDo_1 fl_11_176 tR_0 rfl ?_
  refine q_ltI (fun y1 => ?_)
  refine q_istore_n (lv' := [(1, .int y1), (0, .ref 0)]) eX11_tellDo_4 rfl (by decide) rfl ?_
  refine q_aload_n 1 eX11_tellDo_5 rfl rfl ?_
  refine q_iconst eX11_tellDo_6 kiconst_1 ?_
  refine q_callVV (As := [.int 1]) (st := []) eX11_tellDo_7 cv_11_225 (kX11_must X l 1 w) tR_0 rfl (by decide) rfl rfl (Nat.le_of_ble_eq_true rfl) (by decide) (fun r2 w3 => ?_)
  refine q_iconst eX11_tellDo_10 kiconst_0 ?_
  refine q_istore_n (lv' := [(2, .int 0), (1, .int y1), (0, .ref 0)]) eX11_tellDo_11 rfl (by decide) rfl ?_
  refine q_aload_n 2 eX11_tellDo_12 rfl rfl ?_
  refine q_bipush eX11_tellDo_13 kbipush_6 ?_
  refine q_callVI (As := [.int 6]) (st := []) eX11_tellDo_15 cv_11_191 (kX11_is X l 6 w3) tR_0 rfl (by decide) rfl rfl (Nat.le_of_ble_eq_true rfl) (by decide) (fun r4 w5 => ?_)
  refine q_if_eq (tgt := 55) eX11_tellDo_18 (by decide) (fun _ => ?_) (fun _ => ?_)
  · exact q_sub [2, 1, 0] rfl (jX11_tellDo_n55 X l y1 0 w5)
  · refine q_aload_n 2 eX11_tellDo_21 rfl rfl ?_
    refine q_callVV (As := []) (st := []) eX11_tellDo_22 cv_11_194 (kX11_next X l w5) tR_0 rfl (by decide) rfl rfl (Nat.le_of_ble_eq_true rfl) (by decide) (fun r6 w7 => ?_)
    refine q_aload_n 2 eX11_tellDo_25 rfl rfl ?_
    refine q_callVV (As := []) (st := []) eX11_tellDo_26 cv_11_262 (kX11_expression X l w7) tR_0 rfl (by decide) rfl rfl (Nat.le_of_ble_eq_true rfl) (by decide) (fun r8 w9 => ?_)
    refine q_iconst eX11_tellDo_29 kiconst_1 ?_
    refine q_istore_n (lv' := [(2, .int 1), (1, .int y1), (0, .ref 0)]) eX11_tellDo_30 rfl (by decide) rfl ?_
    refine q_aload_n 2 eX11_tellDo_31 rfl rfl ?_
    refine q_iconst eX11_tellDo_32 kiconst_5 ?_
    refine q_callVI (As := [.int 5]) (st := []) eX11_tellDo_33 cv_11_191 (kX11_is X l 5 w9) tR_0 rfl (by decide) rfl rfl (Nat.le_of_ble_eq_true rfl) (by decide) (fun r10 w11 => ?_)
    refine q_if_eq (tgt := 49) eX11_tellDo_36 (by decide) (fun _ => ?_) (fun _ => ?_)
    · exact q_sub [2, 1, 0] rfl (jX11_tellDo_n49 X l y1 1 w11)
    · refine q_aload_n 2 eX11_tellDo_39 rfl rfl ?_
      refine q_callVV (As := []) (st := []) eX11_tellDo_40 cv_11_194 (kX11_next X l w11) tR_0 rfl (by decide) rfl rfl (Nat.le_of_ble_eq_true rfl) (by decide) (fun r12 w13 => ?_)
      refine q_aload_n 2 eX11_tellDo_43 rfl rfl ?_
      refine q_callVV (As := []) (st := []) eX11_tellDo_44 cv_11_262 (kX11_expression X l w13) tR_0 rfl (by decide) rfl rfl (Nat.le_of_ble_eq_true rfl) (by decide) (fun r14 w15 => ?_)
      refine q_iconst eX11_tellDo_47 kiconst_2 ?_
      refine q_istore_n (lv' := [(2, .int 2), (1, .int y1), (0, .ref 0)]) eX11_tellDo_48 rfl (by decide) rfl ?_
      exact q_sub [2, 1, 0] rfl (jX11_tellDo_n49 X l y1 2 w15)
def fX11_reaches_n32 (rec2 : Int32 → Int32 → q_W → Option (Unit × q_W)) (x1 : Int32) (x2 : Int32) (w : q_W) : Option (Unit × q_W) :=
  q_lt (x2 + 1) fun y1 =>
  rec2 x1 y1 w
set_option maxHeartbeats 4000000 in
set_option maxRecDepth 100000 in
theorem jX11_reaches_n32 (X : q_X) (l : Launch) (rec2 : Int32 → Int32 → q_W → Option (Unit × q_W)) (hr2 : ∀ x1 x2 w, q_J X S_R l mX11_reaches 1 q_tV 2 [(0, .ref 0), (1, .int x1), (2, .int x2)] [] w (rec2 x1 x2 w)) (x1 : Int32) (x2 : Int32) (w : q_W) : q_J X S_R l mX11_reaches 1 q_tV 32 [(0, .ref 0), (1, .int x1), (2, .int x2)] [] w (fX11_reaches_n32 rec2 x1 x2 w) := by
  refine q_ltE (fun y1 hy1 => ?_)
  refine q_iinc (v := y1) (lv' := [(2, .int y1), (0, .ref 0), (1, .int x1)]) 2 eX11_reaches_32 rfl hy1 (by decide) rfl ?_
  refine q_goto (tgt := 2) eX11_reaches_35 (by decide) ?_
  exact q_sub [1, 2, 0] rfl (hr2 x1 y1 w)
def fX11_reaches_h2 (rec2 : Int32 → Int32 → q_W → Option (Unit × q_W)) (x1 : Int32) (x2 : Int32) (w : q_W) : Option (Unit × q_W) :=
  if (w.1 0 28) ≤ x2 then
    if q_inb x1 503 then
    q_lt (w.1 0 28) fun y1 =>
    if q_inb y1 8 then
    q_lt (q_sL w 15 (q_ix y1) (w.2.2 6 (q_ix x1))) fun w2 =>
    q_lt (q_sI w2 0 28 ((w2.1 0 28) + 1)) fun w3 =>
    some ((), w3)
    else none
    else none
  else
    if q_inb x2 8 then
    if q_inb x1 503 then
    if (lg_cmp (w.2.2 15 (q_ix x2)) (w.2.2 6 (q_ix x1))) = 0 then
      q_b (fX11_wrong 3 x1 w) fun r4 w5 =>
      fX11_reaches_n32 rec2 x1 x2 w5
    else
      fX11_reaches_n32 rec2 x1 x2 w
    else none
    else none
def fX11_reaches_l2 : Int32 → Int32 → q_W → Option (Unit × q_W) := q_it q_N (fX11_reaches_h2) (fun _ _ _ => none)
set_option maxHeartbeats 4000000 in
set_option maxRecDepth 100000 in
theorem jX11_reaches_h2 (X : q_X) (l : Launch) (rec2 : Int32 → Int32 → q_W → Option (Unit × q_W)) (hr2 : ∀ x1 x2 w, q_J X S_R l mX11_reaches 1 q_tV 2 [(0, .ref 0), (1, .int x1), (2, .int x2)] [] w (rec2 x1 x2 w)) : ∀ x1 x2 w, q_J X S_R l mX11_reaches 1 q_tV 2 [(0, .ref 0), (1, .int x1), (2, .int x2)] [] w (fX11_reaches_h2 rec2 x1 x2 w) := by
  intro x1 x2 w
  refine q_iload_n 2 eX11_reaches_2 rfl rfl ?_
  refine q_aload_n 0 eX11_reaches_3 rfl rfl ?_
  refine q_getI eX11_reaches_4 fl_11_218 tR_0 rfl ?_
  refine q_icmp_ge (tgt := 38) eX11_reaches_7 (by decide) (fun _ => ?_) (fun _ => ?_)
  · refine q_aload_n 0 eX11_reaches_38 rfl rfl ?_
    refine q_getG (v := 15) eX11_reaches_39 fl_11_61 tR_0 rfl gR_0_29 ?_
    refine q_aload_n 0 eX11_reaches_42 rfl rfl ?_
    refine q_getI eX11_reaches_43 fl_11_218 tR_0 rfl ?_
    refine q_aload_n 0 eX11_reaches_46 rfl rfl ?_
    refine q_getG (v := 6) eX11_reaches_47 fl_11_30 tR_0 rfl gR_0_8 ?_
    refine q_iload_n 1 eX11_reaches_50 rfl rfl ?_
    refine q_lald eX11_reaches_51 tR_6 nR_6 ?_
    refine q_ltI1 (fun y1 => ?_)
    refine q_last eX11_reaches_52 tR_15 nR_15 ?_
    refine q_ltW (fun w2 => ?_)
    refine q_aload_n 0 eX11_reaches_53 rfl rfl ?_
    refine q_dup eX11_reaches_54 rfl ?_
    refine q_getI eX11_reaches_55 fl_11_218 tR_0 rfl ?_
    refine q_iconst eX11_reaches_58 kiconst_1 ?_
    refine q_iadd eX11_reaches_59 ?_
    refine q_putI eX11_reaches_60 fp_11_218 tR_0 rfl ⟨rfl, rfl⟩ ?_
    refine q_ltW (fun w3 => ?_)
    exact q_return eX11_reaches_63 rfl
  · refine q_aload_n 0 eX11_reaches_10 rfl rfl ?_
    refine q_getG (v := 15) eX11_reaches_11 fl_11_61 tR_0 rfl gR_0_29 ?_
    refine q_iload_n 2 eX11_reaches_14 rfl rfl ?_
    refine q_lald eX11_reaches_15 tR_15 nR_15 ?_
    refine q_aload_n 0 eX11_reaches_16 rfl rfl ?_
    refine q_getG (v := 6) eX11_reaches_17 fl_11_30 tR_0 rfl gR_0_8 ?_
    refine q_iload_n 1 eX11_reaches_20 rfl rfl ?_
    refine q_lald eX11_reaches_21 tR_6 nR_6 ?_
    refine q_lcmp eX11_reaches_22 ?_
    refine q_if_ne (tgt := 32) eX11_reaches_23 (by decide) (fun _ => ?_) (fun _ => ?_)
    · refine q_aload_n 0 eX11_reaches_26 rfl rfl ?_
      refine q_iconst eX11_reaches_27 kiconst_3 ?_
      refine q_iload_n 1 eX11_reaches_28 rfl rfl ?_
      refine q_callVV (As := [.int 3, .int x1]) (st := []) eX11_reaches_29 cv_11_221 (kX11_wrong X l 3 x1 w) tR_0 rfl (by decide) rfl rfl (Nat.le_of_ble_eq_true rfl) (by decide) (fun r4 w5 => ?_)
      exact q_sub [0, 1, 2] rfl (jX11_reaches_n32 X l rec2 hr2 x1 x2 w5)
    · exact q_sub [0, 1, 2] rfl (jX11_reaches_n32 X l rec2 hr2 x1 x2 w)
set_option maxHeartbeats 4000000 in
set_option maxRecDepth 100000 in
theorem jX11_reaches_l2 (X : q_X) (l : Launch) : ∀ x1 x2 w, q_J X S_R l mX11_reaches 1 q_tV 2 [(0, .ref 0), (1, .int x1), (2, .int x2)] [] w (fX11_reaches_l2 x1 x2 w) := by
  exact q_it_ind (fun rc => ∀ x1 x2 w, q_J X S_R l mX11_reaches 1 q_tV 2 [(0, .ref 0), (1, .int x1), (2, .int x2)] [] w (rc x1 x2 w)) _ _ (fun _ _ _ => q_none) (fun rc hrc => jX11_reaches_h2 X l rc hrc) q_N
def fX11_reaches (a1 : Int32) (w : q_W) : Option (Unit × q_W) :=
  fX11_reaches_l2 a1 0 w
set_option maxHeartbeats 4000000 in
set_option maxRecDepth 100000 in
theorem kX11_reaches (X : q_X) (l : Launch) (a1 : Int32) (w : q_W) : q_Ct X S_R l mX11_reaches 1 q_tV [.ref 0, .int a1] w (fX11_reaches a1 w) := by
  refine q_intro (lv := [(0, .ref 0), (1, .int a1)]) (by decide +kernel) rfl (Nat.le_of_ble_eq_true rfl) rfl ?_
  refine q_iconst eX11_reaches_0 kiconst_0 ?_
  refine q_istore_n (lv' := [(2, .int 0), (0, .ref 0), (1, .int a1)]) eX11_reaches_1 rfl (by decide) rfl ?_
  exact q_sub [1, 2, 0] rfl (jX11_reaches_l2 X l a1 0 w)
