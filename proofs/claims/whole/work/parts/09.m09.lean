/-! methods, printed by program: X11_tellFor X11_relation X11_tellIf X11_tellStroke X11_turnsElse X11_tellDeed X11_tellParameter X11_tellPattern X11_read X11_place X11_begins -/
def fX11_tellFor (a1 : Int32) (w : q_W) : Option (Unit × q_W) :=
  q_lt (w.1 0 11) fun y1 =>
  q_b (fX11_must 1 w) fun r2 w3 =>
  q_b (fX11_must 17 w3) fun r4 w5 =>
  q_b (fX11_expression w5) fun r6 w7 =>
  q_b (fX11_must 27 w7) fun r8 w9 =>
  q_b (fX11_expression w9) fun r10 w11 =>
  if (w11.1 0 13) ≤ 0 then
    q_b (fX11_reaches y1 w11) fun r12 w13 =>
    q_lt (w13.1 0 30) fun y14 =>
    if q_inb y14 8 then
    q_lt (q_sI w13 16 (q_ix y14) 1) fun w15 =>
    q_lt (w15.1 0 30) fun y16 =>
    if q_inb y16 8 then
    q_lt (q_sI w15 17 (q_ix y16) (w15.1 0 24)) fun w17 =>
    q_lt (w17.1 0 30) fun y18 =>
    if q_inb y18 8 then
    q_lt (q_sI w17 18 (q_ix y18) (1 + (w17.1 0 30))) fun w19 =>
    q_lt ((w19.1 0 28) - 1) fun y20 =>
    if q_inb y20 8 then
    q_lt (q_sI w19 19 (q_ix y20) (1 + (w19.1 0 30))) fun w21 =>
    q_b (fX11_emit 10 (1 + (w21.1 0 30)) 0 w21) fun r22 w23 =>
    q_b (fX11_emit 11 a1 0 w23) fun r24 w25 =>
    q_lt (q_sI w25 0 30 ((w25.1 0 30) + 1)) fun w26 =>
    some ((), w26)
    else none
    else none
    else none
    else none
  else
    some ((), w11)
set_option maxHeartbeats 4000000 in
set_option maxRecDepth 100000 in
theorem kX11_tellFor (X : q_X) (l : Launch) (a1 : Int32) (w : q_W) : q_Ct X S_R l mX11_tellFor 5 q_tV [.ref 0, .int a1] w (fX11_tellFor a1 w) := by
  refine q_intro (lv := [(0, .ref 0), (1, .int a1)]) (by decide +kernel) rfl (Nat.le_of_ble_eq_true rfl) rfl ?_
  refine q_aload_n 0 eX11_tellFor_0 rfl rfl ?_
  refine q_getI eX11_tellFor_1 fl_11_176 tR_0 rfl ?_
  refine q_ltI (fun y1 => ?_)
  refine q_istore_n (lv' := [(2, .int y1), (0, .ref 0), (1, .int a1)]) eX11_tellFor_4 rfl (by decide) rfl ?_
  refine q_aload_n 1 eX11_tellFor_5 rfl rfl ?_
  refine q_iconst eX11_tellFor_6 kiconst_1 ?_
  refine q_callVV (As := [.int 1]) (st := []) eX11_tellFor_7 cv_11_225 (kX11_must X l 1 w) tR_0 rfl (by decide) rfl rfl (Nat.le_of_ble_eq_true rfl) (by decide) (fun r2 w3 => ?_)
  refine q_aload_n 1 eX11_tellFor_10 rfl rfl ?_
  refine q_bipush eX11_tellFor_11 kbipush_17 ?_
  refine q_callVV (As := [.int 17]) (st := []) eX11_tellFor_13 cv_11_225 (kX11_must X l 17 w3) tR_0 rfl (by decide) rfl rfl (Nat.le_of_ble_eq_true rfl) (by decide) (fun r4 w5 => ?_)
  refine q_aload_n 1 eX11_tellFor_16 rfl rfl ?_
  refine q_callVV (As := []) (st := []) eX11_tellFor_17 cv_11_262 (kX11_expression X l w5) tR_0 rfl (by decide) rfl rfl (Nat.le_of_ble_eq_true rfl) (by decide) (fun r6 w7 => ?_)
  refine q_aload_n 1 eX11_tellFor_20 rfl rfl ?_
  refine q_bipush eX11_tellFor_21 kbipush_27 ?_
  refine q_callVV (As := [.int 27]) (st := []) eX11_tellFor_23 cv_11_225 (kX11_must X l 27 w7) tR_0 rfl (by decide) rfl rfl (Nat.le_of_ble_eq_true rfl) (by decide) (fun r8 w9 => ?_)
  refine q_aload_n 1 eX11_tellFor_26 rfl rfl ?_
  refine q_callVV (As := []) (st := []) eX11_tellFor_27 cv_11_262 (kX11_expression X l w9) tR_0 rfl (by decide) rfl rfl (Nat.le_of_ble_eq_true rfl) (by decide) (fun r10 w11 => ?_)
  refine q_aload_n 1 eX11_tellFor_30 rfl rfl ?_
  refine q_getI eX11_tellFor_31 fl_11_173 tR_0 rfl ?_
  refine q_if_le (tgt := 38) eX11_tellFor_34 (by decide) (fun _ => ?_) (fun _ => ?_)
  · refine q_aload_n 1 eX11_tellFor_38 rfl rfl ?_
    refine q_iload_n 0 eX11_tellFor_39 rfl rfl ?_
    refine q_callVV (As := [.int y1]) (st := []) eX11_tellFor_40 cv_11_237 (kX11_reaches X l y1 w11) tR_0 rfl (by decide) rfl rfl (Nat.le_of_ble_eq_true rfl) (by decide) (fun r12 w13 => ?_)
    refine q_aload_n 1 eX11_tellFor_43 rfl rfl ?_
    refine q_getG (v := 16) eX11_tellFor_44 fl_11_64 tR_0 rfl gR_0_31 ?_
    refine q_aload_n 1 eX11_tellFor_47 rfl rfl ?_
    refine q_getI eX11_tellFor_48 fl_11_231 tR_0 rfl ?_
    refine q_iconst eX11_tellFor_51 kiconst_1 ?_
    refine q_ltI1 (fun y14 => ?_)
    refine q_iast eX11_tellFor_52 tR_16 nR_16 ?_
    refine q_ltW (fun w15 => ?_)
    refine q_aload_n 1 eX11_tellFor_53 rfl rfl ?_
    refine q_getG (v := 17) eX11_tellFor_54 fl_11_67 tR_0 rfl gR_0_32 ?_
    refine q_aload_n 1 eX11_tellFor_57 rfl rfl ?_
    refine q_getI eX11_tellFor_58 fl_11_231 tR_0 rfl ?_
    refine q_aload_n 1 eX11_tellFor_61 rfl rfl ?_
    refine q_getI eX11_tellFor_62 fl_11_212 tR_0 rfl ?_
    refine q_ltI1 (fun y16 => ?_)
    refine q_iast eX11_tellFor_65 tR_17 nR_17 ?_
    refine q_ltW (fun w17 => ?_)
    refine q_aload_n 1 eX11_tellFor_66 rfl rfl ?_
    refine q_getG (v := 18) eX11_tellFor_67 fl_11_70 tR_0 rfl gR_0_33 ?_
    refine q_aload_n 1 eX11_tellFor_70 rfl rfl ?_
    refine q_getI eX11_tellFor_71 fl_11_231 tR_0 rfl ?_
    refine q_iconst eX11_tellFor_74 kiconst_1 ?_
    refine q_aload_n 1 eX11_tellFor_75 rfl rfl ?_
    refine q_getI eX11_tellFor_76 fl_11_231 tR_0 rfl ?_
    refine q_iadd eX11_tellFor_79 ?_
    refine q_ltI1 (fun y18 => ?_)
    refine q_iast eX11_tellFor_80 tR_18 nR_18 ?_
    refine q_ltW (fun w19 => ?_)
    refine q_aload_n 1 eX11_tellFor_81 rfl rfl ?_
    refine q_getG (v := 19) eX11_tellFor_82 fl_11_73 tR_0 rfl gR_0_34 ?_
    refine q_aload_n 1 eX11_tellFor_85 rfl rfl ?_
    refine q_getI eX11_tellFor_86 fl_11_218 tR_0 rfl ?_
    refine q_iconst eX11_tellFor_89 kiconst_1 ?_
    refine q_isub eX11_tellFor_90 ?_
    refine q_iconst eX11_tellFor_91 kiconst_1 ?_
    refine q_aload_n 1 eX11_tellFor_92 rfl rfl ?_
    refine q_getI eX11_tellFor_93 fl_11_231 tR_0 rfl ?_
    refine q_iadd eX11_tellFor_96 ?_
    refine q_ltI1 (fun y20 => ?_)
    refine q_iast eX11_tellFor_97 tR_19 nR_19 ?_
    refine q_ltW (fun w21 => ?_)
    refine q_aload_n 1 eX11_tellFor_98 rfl rfl ?_
    refine q_bipush eX11_tellFor_99 kbipush_10 ?_
    refine q_iconst eX11_tellFor_101 kiconst_1 ?_
    refine q_aload_n 1 eX11_tellFor_102 rfl rfl ?_
    refine q_getI eX11_tellFor_103 fl_11_231 tR_0 rfl ?_
    refine q_iadd eX11_tellFor_106 ?_
    refine q_iconst eX11_tellFor_107 kiconst_0 ?_
    refine q_callVV (As := [.int 10, .int (1 + (w21.1 0 30)), .int 0]) (st := []) eX11_tellFor_108 cv_11_246 (kX11_emit X l 10 (1 + (w21.1 0 30)) 0 w21) tR_0 rfl (by decide) rfl rfl (Nat.le_of_ble_eq_true rfl) (by decide) (fun r22 w23 => ?_)
    refine q_aload_n 1 eX11_tellFor_111 rfl rfl ?_
    refine q_bipush eX11_tellFor_112 kbipush_11 ?_
    refine q_iload_n 2 eX11_tellFor_114 rfl rfl ?_
    refine q_iconst eX11_tellFor_115 kiconst_0 ?_
    refine q_callVV (As := [.int 11, .int a1, .int 0]) (st := []) eX11_tellFor_116 cv_11_246 (kX11_emit X l 11 a1 0 w23) tR_0 rfl (by decide) rfl rfl (Nat.le_of_ble_eq_true rfl) (by decide) (fun r24 w25 => ?_)
    refine q_aload_n 1 eX11_tellFor_119 rfl rfl ?_
    refine q_dup eX11_tellFor_120 rfl ?_
    refine q_getI eX11_tellFor_121 fl_11_231 tR_0 rfl ?_
    refine q_iconst eX11_tellFor_124 kiconst_1 ?_
    refine q_iadd eX11_tellFor_125 ?_
    refine q_putI eX11_tellFor_126 fp_11_231 tR_0 rfl ⟨rfl, rfl⟩ ?_
    refine q_ltW (fun w26 => ?_)
    exact q_return eX11_tellFor_129 rfl
  · exact q_return eX11_tellFor_37 rfl
def fX11_relation_n38 (x1 : Int32) (w : q_W) : Option (Unit × q_W) :=
  q_b (fX11_next w) fun r1 w2 =>
  q_b (fX11_expression w2) fun r3 w4 =>
  if (w4.1 0 13) = 0 then
    q_b (fX11_emit 14 x1 0 w4) fun r5 w6 =>
    some ((), w6)
  else
    some ((), w4)
set_option maxHeartbeats 4000000 in
set_option maxRecDepth 100000 in
theorem jX11_relation_n38 (X : q_X) (l : Launch) (x1 : Int32) (w : q_W) : q_J X S_R l mX11_relation 5 q_tV 38 [(0, .ref 0), (1, .int x1)] [] w (fX11_relation_n38 x1 w) := by
  refine q_aload_n 0 eX11_relation_38 rfl rfl ?_
  refine q_callVV (As := []) (st := []) eX11_relation_39 cv_11_194 (kX11_next X l w) tR_0 rfl (by decide) rfl rfl (Nat.le_of_ble_eq_true rfl) (by decide) (fun r1 w2 => ?_)
  refine q_aload_n 0 eX11_relation_42 rfl rfl ?_
  refine q_callVV (As := []) (st := []) eX11_relation_43 cv_11_262 (kX11_expression X l w2) tR_0 rfl (by decide) rfl rfl (Nat.le_of_ble_eq_true rfl) (by decide) (fun r3 w4 => ?_)
  refine q_aload_n 0 eX11_relation_46 rfl rfl ?_
  refine q_getI eX11_relation_47 fl_11_173 tR_0 rfl ?_
  refine q_if_ne (tgt := 61) eX11_relation_50 (by decide) (fun _ => ?_) (fun _ => ?_)
  · refine q_aload_n 0 eX11_relation_53 rfl rfl ?_
    refine q_bipush eX11_relation_54 kbipush_14 ?_
    refine q_iload_n 1 eX11_relation_56 rfl rfl ?_
    refine q_iconst eX11_relation_57 kiconst_0 ?_
    refine q_callVV (As := [.int 14, .int x1, .int 0]) (st := []) eX11_relation_58 cv_11_246 (kX11_emit X l 14 x1 0 w4) tR_0 rfl (by decide) rfl rfl (Nat.le_of_ble_eq_true rfl) (by decide) (fun r5 w6 => ?_)
    exact q_return eX11_relation_61 rfl
  · exact q_return eX11_relation_61 rfl
def fX11_relation_n33 (x1 : Int32) (w : q_W) : Option (Unit × q_W) :=
  q_b (fX11_fail 1 w) fun r1 w2 =>
  fX11_relation_n38 x1 w2
set_option maxHeartbeats 4000000 in
set_option maxRecDepth 100000 in
theorem jX11_relation_n33 (X : q_X) (l : Launch) (x1 : Int32) (w : q_W) : q_J X S_R l mX11_relation 5 q_tV 33 [(0, .ref 0), (1, .int x1)] [] w (fX11_relation_n33 x1 w) := by
  refine q_aload_n 0 eX11_relation_33 rfl rfl ?_
  refine q_iconst eX11_relation_34 kiconst_1 ?_
  refine q_callVV (As := [.int 1]) (st := []) eX11_relation_35 cv_11_188 (kX11_fail X l 1 w) tR_0 rfl (by decide) rfl rfl (Nat.le_of_ble_eq_true rfl) (by decide) (fun r1 w2 => ?_)
  exact q_sub [0, 1] rfl (jX11_relation_n38 X l x1 w2)
def fX11_relation (w : q_W) : Option (Unit × q_W) :=
  q_b (fX11_expression w) fun r1 w2 =>
  q_lt (w2.1 0 11) fun y3 =>
  if q_inb y3 503 then
  q_lt ((w2.1 3 (q_ix y3)) - 11) fun y4 =>
  if (w2.1 0 13) = 0 then
    if y4 < 0 then
      fX11_relation_n33 y4 w2
    else
      if y4 ≤ 3 then
        fX11_relation_n38 y4 w2
      else
        fX11_relation_n33 y4 w2
  else
    fX11_relation_n38 y4 w2
  else none
set_option maxHeartbeats 4000000 in
set_option maxRecDepth 100000 in
theorem kX11_relation (X : q_X) (l : Launch) (w : q_W) : q_Ct X S_R l mX11_relation 5 q_tV [.ref 0] w (fX11_relation w) := by
  refine q_intro (lv := [(0, .ref 0)]) (by decide +kernel) rfl (Nat.le_of_ble_eq_true rfl) rfl ?_
  refine q_aload_n 0 eX11_relation_0 rfl rfl ?_
  refine q_callVV (As := []) (st := []) eX11_relation_1 cv_11_262 (kX11_expression X l w) tR_0 rfl (by decide) rfl rfl (Nat.le_of_ble_eq_true rfl) (by decide) (fun r1 w2 => ?_)
  refine q_aload_n 0 eX11_relation_4 rfl rfl ?_
  refine q_getG (v := 3) eX11_relation_5 fl_11_20 tR_0 rfl gR_0_5 ?_
  refine q_aload_n 0 eX11_relation_8 rfl rfl ?_
  refine q_getI eX11_relation_9 fl_11_176 tR_0 rfl ?_
  refine q_ltI (fun y3 => ?_)
  refine q_iald eX11_relation_12 tR_3 nR_3 ?_
  refine q_bipush eX11_relation_13 kbipush_11 ?_
  refine q_isub eX11_relation_15 ?_
  refine q_ltI (fun y4 => ?_)
  refine q_istore_n (lv' := [(1, .int y4), (0, .ref 0)]) eX11_relation_16 rfl (by decide) rfl ?_
  refine q_aload_n 1 eX11_relation_17 rfl rfl ?_
  refine q_getI eX11_relation_18 fl_11_173 tR_0 rfl ?_
  refine q_if_ne (tgt := 38) eX11_relation_21 (by decide) (fun _ => ?_) (fun _ => ?_)
  · refine q_iload_n 0 eX11_relation_24 rfl rfl ?_
    refine q_if_lt (tgt := 33) eX11_relation_25 (by decide) (fun _ => ?_) (fun _ => ?_)
    · exact q_sub [1, 0] rfl (jX11_relation_n33 X l y4 w2)
    · refine q_iload_n 0 eX11_relation_28 rfl rfl ?_
      refine q_iconst eX11_relation_29 kiconst_3 ?_
      refine q_icmp_le (tgt := 38) eX11_relation_30 (by decide) (fun _ => ?_) (fun _ => ?_)
      · exact q_sub [1, 0] rfl (jX11_relation_n38 X l y4 w2)
      · exact q_sub [1, 0] rfl (jX11_relation_n33 X l y4 w2)
  · exact q_sub [1, 0] rfl (jX11_relation_n38 X l y4 w2)
def fX11_tellIf_n137 (w : q_W) : Option (Unit × q_W) :=
  q_b (fX11_lands (w.1 0 36) w) fun r1 w2 =>
  q_lt (w2.1 0 30) fun y3 =>
  if q_inb y3 8 then
  q_lt (q_sI w2 16 (q_ix y3) 2) fun w4 =>
  q_lt (w4.1 0 30) fun y5 =>
  if q_inb y5 8 then
  q_lt (q_sI w4 17 (q_ix y5) (w4.1 0 35)) fun w6 =>
  q_lt (q_sI w6 0 30 ((w6.1 0 30) + 1)) fun w7 =>
  some ((), w7)
  else none
  else none
set_option maxHeartbeats 4000000 in
set_option maxRecDepth 100000 in
theorem jX11_tellIf_n137 (X : q_X) (l : Launch) (w : q_W) : q_J X S_R l mX11_tellIf 6 q_tV 137 [(0, .ref 0)] [] w (fX11_tellIf_n137 w) := by
  refine q_aload_n 0 eX11_tellIf_137 rfl rfl ?_
  refine q_aload_n 0 eX11_tellIf_138 rfl rfl ?_
  refine q_getI eX11_tellIf_139 fl_11_265 tR_0 rfl ?_
  refine q_callVV (As := [.int (w.1 0 36)]) (st := []) eX11_tellIf_142 cv_11_274 (kX11_lands X l (w.1 0 36) w) tR_0 rfl (by decide) rfl rfl (Nat.le_of_ble_eq_true rfl) (by decide) (fun r1 w2 => ?_)
  refine q_aload_n 0 eX11_tellIf_145 rfl rfl ?_
  refine q_getG (v := 16) eX11_tellIf_146 fl_11_64 tR_0 rfl gR_0_31 ?_
  refine q_aload_n 0 eX11_tellIf_149 rfl rfl ?_
  refine q_getI eX11_tellIf_150 fl_11_231 tR_0 rfl ?_
  refine q_iconst eX11_tellIf_153 kiconst_2 ?_
  refine q_ltI1 (fun y3 => ?_)
  refine q_iast eX11_tellIf_154 tR_16 nR_16 ?_
  refine q_ltW (fun w4 => ?_)
  refine q_aload_n 0 eX11_tellIf_155 rfl rfl ?_
  refine q_getG (v := 17) eX11_tellIf_156 fl_11_67 tR_0 rfl gR_0_32 ?_
  refine q_aload_n 0 eX11_tellIf_159 rfl rfl ?_
  refine q_getI eX11_tellIf_160 fl_11_231 tR_0 rfl ?_
  refine q_aload_n 0 eX11_tellIf_163 rfl rfl ?_
  refine q_getI eX11_tellIf_164 fl_11_268 tR_0 rfl ?_
  refine q_ltI1 (fun y5 => ?_)
  refine q_iast eX11_tellIf_167 tR_17 nR_17 ?_
  refine q_ltW (fun w6 => ?_)
  refine q_aload_n 0 eX11_tellIf_168 rfl rfl ?_
  refine q_dup eX11_tellIf_169 rfl ?_
  refine q_getI eX11_tellIf_170 fl_11_231 tR_0 rfl ?_
  refine q_iconst eX11_tellIf_173 kiconst_1 ?_
  refine q_iadd eX11_tellIf_174 ?_
  refine q_putI eX11_tellIf_175 fp_11_231 tR_0 rfl ⟨rfl, rfl⟩ ?_
  refine q_ltW (fun w7 => ?_)
  exact q_return eX11_tellIf_178 rfl
def fX11_tellIf_n125 (rec12 : Int32 → q_W → Option (Unit × q_W)) (s0 : Int32) (w : q_W) : Option (Unit × q_W) :=
  if s0 = 0 then
    rec12 s0 w
  else
    q_b (fX11_next w) fun r1 w2 =>
    rec12 s0 w2
set_option maxHeartbeats 4000000 in
set_option maxRecDepth 100000 in
theorem jX11_tellIf_n125 (X : q_X) (l : Launch) (rec12 : Int32 → q_W → Option (Unit × q_W)) (hr12 : ∀ x1 w, q_J X S_R l mX11_tellIf 6 q_tV 12 [(0, .ref 0), (1, .int x1)] [] w (rec12 x1 w)) (s0 : Int32) (w : q_W) : q_J X S_R l mX11_tellIf 6 q_tV 125 [(0, .ref 0)] [.int s0] w (fX11_tellIf_n125 rec12 s0 w) := by
  refine q_istore_n (lv' := [(1, .int s0), (0, .ref 0)]) eX11_tellIf_125 rfl (by decide) rfl ?_
  refine q_iload_n 0 eX11_tellIf_126 rfl rfl ?_
  refine q_if_eq (tgt := 12) eX11_tellIf_127 (by decide) (fun _ => ?_) (fun _ => ?_)
  · exact q_sub [1, 0] rfl (hr12 s0 w)
  · refine q_aload_n 1 eX11_tellIf_130 rfl rfl ?_
    refine q_callVV (As := []) (st := []) eX11_tellIf_131 cv_11_194 (kX11_next X l w) tR_0 rfl (by decide) rfl rfl (Nat.le_of_ble_eq_true rfl) (by decide) (fun r1 w2 => ?_)
    refine q_goto (tgt := 12) eX11_tellIf_134 (by decide) ?_
    exact q_sub [1, 0] rfl (hr12 s0 w2)
def fX11_tellIf_n120 (rec12 : Int32 → q_W → Option (Unit × q_W)) (w : q_W) : Option (Unit × q_W) :=
  fX11_tellIf_n125 rec12 1 w
set_option maxHeartbeats 4000000 in
set_option maxRecDepth 100000 in
theorem jX11_tellIf_n120 (X : q_X) (l : Launch) (rec12 : Int32 → q_W → Option (Unit × q_W)) (hr12 : ∀ x1 w, q_J X S_R l mX11_tellIf 6 q_tV 12 [(0, .ref 0), (1, .int x1)] [] w (rec12 x1 w)) (w : q_W) : q_J X S_R l mX11_tellIf 6 q_tV 120 [(0, .ref 0)] [] w (fX11_tellIf_n120 rec12 w) := by
  refine q_iconst eX11_tellIf_120 kiconst_1 ?_
  refine q_goto (tgt := 125) eX11_tellIf_121 (by decide) ?_
  exact q_sub [0] rfl (jX11_tellIf_n125 X l rec12 hr12 1 w)
def fX11_tellIf_n102 (rec12 : Int32 → q_W → Option (Unit × q_W)) (w : q_W) : Option (Unit × q_W) :=
  q_b (fX11_is 31 w) fun r1 w2 =>
  if r1 = 0 then
    q_b (fX11_is 32 w2) fun r3 w4 =>
    if r3 = 0 then
      fX11_tellIf_n125 rec12 0 w4
    else
      fX11_tellIf_n120 rec12 w4
  else
    fX11_tellIf_n120 rec12 w2
set_option maxHeartbeats 4000000 in
set_option maxRecDepth 100000 in
theorem jX11_tellIf_n102 (X : q_X) (l : Launch) (rec12 : Int32 → q_W → Option (Unit × q_W)) (hr12 : ∀ x1 w, q_J X S_R l mX11_tellIf 6 q_tV 12 [(0, .ref 0), (1, .int x1)] [] w (rec12 x1 w)) (w : q_W) : q_J X S_R l mX11_tellIf 6 q_tV 102 [(0, .ref 0)] [] w (fX11_tellIf_n102 rec12 w) := by
  refine q_aload_n 0 eX11_tellIf_102 rfl rfl ?_
  refine q_bipush eX11_tellIf_103 kbipush_31 ?_
  refine q_callVI (As := [.int 31]) (st := []) eX11_tellIf_105 cv_11_191 (kX11_is X l 31 w) tR_0 rfl (by decide) rfl rfl (Nat.le_of_ble_eq_true rfl) (by decide) (fun r1 w2 => ?_)
  refine q_if_ne (tgt := 120) eX11_tellIf_108 (by decide) (fun _ => ?_) (fun _ => ?_)
  · refine q_aload_n 0 eX11_tellIf_111 rfl rfl ?_
    refine q_bipush eX11_tellIf_112 kbipush_32 ?_
    refine q_callVI (As := [.int 32]) (st := []) eX11_tellIf_114 cv_11_191 (kX11_is X l 32 w2) tR_0 rfl (by decide) rfl rfl (Nat.le_of_ble_eq_true rfl) (by decide) (fun r3 w4 => ?_)
    refine q_if_eq (tgt := 124) eX11_tellIf_117 (by decide) (fun _ => ?_) (fun _ => ?_)
    · refine q_iconst eX11_tellIf_124 kiconst_0 ?_
      exact q_sub [0] rfl (jX11_tellIf_n125 X l rec12 hr12 0 w4)
    · exact q_sub [0] rfl (jX11_tellIf_n120 X l rec12 hr12 w4)
  · exact q_sub [0] rfl (jX11_tellIf_n120 X l rec12 hr12 w2)
def fX11_tellIf_h12 (rec12 : Int32 → q_W → Option (Unit × q_W)) (x1 : Int32) (w : q_W) : Option (Unit × q_W) :=
  if x1 = 0 then
    fX11_tellIf_n137 w
  else
    if (w.1 0 13) = 0 then
      q_b (fX11_relation w) fun r1 w2 =>
      if (w2.1 0 13) ≤ 0 then
        q_b (fX11_is 31 w2) fun r3 w4 =>
        if r3 = 0 then
          q_b (fX11_emit 15 0 (w4.1 0 35) w4) fun r5 w6 =>
          q_lt (q_sI w6 0 35 ((w6.1 0 24) - 1)) fun w7 =>
          fX11_tellIf_n102 rec12 w7
        else
          q_b (fX11_emit 16 0 (w4.1 0 36) w4) fun r8 w9 =>
          q_lt (q_sI w9 0 36 ((w9.1 0 24) - 1)) fun w10 =>
          q_b (fX11_lands (w10.1 0 35) w10) fun r11 w12 =>
          q_lt (q_sI w12 0 35 (-1)) fun w13 =>
          fX11_tellIf_n102 rec12 w13
      else
        some ((), w2)
    else
      fX11_tellIf_n137 w
def fX11_tellIf_l12 : Int32 → q_W → Option (Unit × q_W) := q_it q_N (fX11_tellIf_h12) (fun _ _ => none)
set_option maxHeartbeats 4000000 in
set_option maxRecDepth 100000 in
theorem jX11_tellIf_h12 (X : q_X) (l : Launch) (rec12 : Int32 → q_W → Option (Unit × q_W)) (hr12 : ∀ x1 w, q_J X S_R l mX11_tellIf 6 q_tV 12 [(0, .ref 0), (1, .int x1)] [] w (rec12 x1 w)) : ∀ x1 w, q_J X S_R l mX11_tellIf 6 q_tV 12 [(0, .ref 0), (1, .int x1)] [] w (fX11_tellIf_h12 rec12 x1 w) := by
  intro x1 w
  refine q_iload_n 1 eX11_tellIf_12 rfl rfl ?_
  refine q_if_eq (tgt := 137) eX11_tellIf_13 (by decide) (fun _ => ?_) (fun _ => ?_)
  · exact q_sub [0] rfl (jX11_tellIf_n137 X l w)
  · refine q_aload_n 0 eX11_tellIf_16 rfl rfl ?_
    refine q_getI eX11_tellIf_17 fl_11_173 tR_0 rfl ?_
    refine q_if_ne (tgt := 137) eX11_tellIf_20 (by decide) (fun _ => ?_) (fun _ => ?_)
    · refine q_aload_n 0 eX11_tellIf_23 rfl rfl ?_
      refine q_callVV (As := []) (st := []) eX11_tellIf_24 cv_11_271 (kX11_relation X l w) tR_0 rfl (by decide) rfl rfl (Nat.le_of_ble_eq_true rfl) (by decide) (fun r1 w2 => ?_)
      refine q_aload_n 0 eX11_tellIf_27 rfl rfl ?_
      refine q_getI eX11_tellIf_28 fl_11_173 tR_0 rfl ?_
      refine q_if_le (tgt := 35) eX11_tellIf_31 (by decide) (fun _ => ?_) (fun _ => ?_)
      · refine q_aload_n 0 eX11_tellIf_35 rfl rfl ?_
        refine q_bipush eX11_tellIf_36 kbipush_31 ?_
        refine q_callVI (As := [.int 31]) (st := []) eX11_tellIf_38 cv_11_191 (kX11_is X l 31 w2) tR_0 rfl (by decide) rfl rfl (Nat.le_of_ble_eq_true rfl) (by decide) (fun r3 w4 => ?_)
        refine q_if_eq (tgt := 81) eX11_tellIf_41 (by decide) (fun _ => ?_) (fun _ => ?_)
        · refine q_aload_n 0 eX11_tellIf_81 rfl rfl ?_
          refine q_bipush eX11_tellIf_82 kbipush_15 ?_
          refine q_iconst eX11_tellIf_84 kiconst_0 ?_
          refine q_aload_n 0 eX11_tellIf_85 rfl rfl ?_
          refine q_getI eX11_tellIf_86 fl_11_268 tR_0 rfl ?_
          refine q_callVV (As := [.int 15, .int 0, .int (w4.1 0 35)]) (st := []) eX11_tellIf_89 cv_11_246 (kX11_emit X l 15 0 (w4.1 0 35) w4) tR_0 rfl (by decide) rfl rfl (Nat.le_of_ble_eq_true rfl) (by decide) (fun r5 w6 => ?_)
          refine q_aload_n 0 eX11_tellIf_92 rfl rfl ?_
          refine q_aload_n 0 eX11_tellIf_93 rfl rfl ?_
          refine q_getI eX11_tellIf_94 fl_11_212 tR_0 rfl ?_
          refine q_iconst eX11_tellIf_97 kiconst_1 ?_
          refine q_isub eX11_tellIf_98 ?_
          refine q_putI eX11_tellIf_99 fp_11_268 tR_0 rfl ⟨rfl, rfl⟩ ?_
          refine q_ltW (fun w7 => ?_)
          exact q_sub [0] rfl (jX11_tellIf_n102 X l rec12 hr12 w7)
        · refine q_aload_n 0 eX11_tellIf_44 rfl rfl ?_
          refine q_bipush eX11_tellIf_45 kbipush_16 ?_
          refine q_iconst eX11_tellIf_47 kiconst_0 ?_
          refine q_aload_n 0 eX11_tellIf_48 rfl rfl ?_
          refine q_getI eX11_tellIf_49 fl_11_265 tR_0 rfl ?_
          refine q_callVV (As := [.int 16, .int 0, .int (w4.1 0 36)]) (st := []) eX11_tellIf_52 cv_11_246 (kX11_emit X l 16 0 (w4.1 0 36) w4) tR_0 rfl (by decide) rfl rfl (Nat.le_of_ble_eq_true rfl) (by decide) (fun r8 w9 => ?_)
          refine q_aload_n 0 eX11_tellIf_55 rfl rfl ?_
          refine q_aload_n 0 eX11_tellIf_56 rfl rfl ?_
          refine q_getI eX11_tellIf_57 fl_11_212 tR_0 rfl ?_
          refine q_iconst eX11_tellIf_60 kiconst_1 ?_
          refine q_isub eX11_tellIf_61 ?_
          refine q_putI eX11_tellIf_62 fp_11_265 tR_0 rfl ⟨rfl, rfl⟩ ?_
          refine q_ltW (fun w10 => ?_)
          refine q_aload_n 0 eX11_tellIf_65 rfl rfl ?_
          refine q_aload_n 0 eX11_tellIf_66 rfl rfl ?_
          refine q_getI eX11_tellIf_67 fl_11_268 tR_0 rfl ?_
          refine q_callVV (As := [.int (w10.1 0 35)]) (st := []) eX11_tellIf_70 cv_11_274 (kX11_lands X l (w10.1 0 35) w10) tR_0 rfl (by decide) rfl rfl (Nat.le_of_ble_eq_true rfl) (by decide) (fun r11 w12 => ?_)
          refine q_aload_n 0 eX11_tellIf_73 rfl rfl ?_
          refine q_iconst eX11_tellIf_74 kiconst_m1 ?_
          refine q_putI eX11_tellIf_75 fp_11_268 tR_0 rfl ⟨rfl, rfl⟩ ?_
          refine q_ltW (fun w13 => ?_)
          refine q_goto (tgt := 102) eX11_tellIf_78 (by decide) ?_
          exact q_sub [0] rfl (jX11_tellIf_n102 X l rec12 hr12 w13)
      · exact q_return eX11_tellIf_34 rfl
    · exact q_sub [0] rfl (jX11_tellIf_n137 X l w)
set_option maxHeartbeats 4000000 in
set_option maxRecDepth 100000 in
theorem jX11_tellIf_l12 (X : q_X) (l : Launch) : ∀ x1 w, q_J X S_R l mX11_tellIf 6 q_tV 12 [(0, .ref 0), (1, .int x1)] [] w (fX11_tellIf_l12 x1 w) := by
  exact q_it_ind (fun rc => ∀ x1 w, q_J X S_R l mX11_tellIf 6 q_tV 12 [(0, .ref 0), (1, .int x1)] [] w (rc x1 w)) _ _ (fun _ _ => q_none) (fun rc hrc => jX11_tellIf_h12 X l rc hrc) q_N
def fX11_tellIf (w : q_W) : Option (Unit × q_W) :=
  q_lt (q_sI w 0 36 (-1)) fun w1 =>
  q_lt (q_sI w1 0 35 (-1)) fun w2 =>
  fX11_tellIf_l12 1 w2
set_option maxHeartbeats 4000000 in
set_option maxRecDepth 100000 in
theorem kX11_tellIf (X : q_X) (l : Launch) (w : q_W) : q_Ct X S_R l mX11_tellIf 6 q_tV [.ref 0] w (fX11_tellIf w) := by
  refine q_intro (lv := [(0, .ref 0)]) (by decide +kernel) rfl (Nat.le_of_ble_eq_true rfl) rfl ?_
  refine q_aload_n 0 eX11_tellIf_0 rfl rfl ?_
  refine q_iconst eX11_tellIf_1 kiconst_m1 ?_
  refine q_putI eX11_tellIf_2 fp_11_265 tR_0 rfl ⟨rfl, rfl⟩ ?_
  refine q_ltW (fun w1 => ?_)
  refine q_aload_n 0 eX11_tellIf_5 rfl rfl ?_
  refine q_iconst eX11_tellIf_6 kiconst_m1 ?_
  refine q_putI eX11_tellIf_7 fp_11_268 tR_0 rfl ⟨rfl, rfl⟩ ?_
  refine q_ltW (fun w2 => ?_)
  refine q_iconst eX11_tellIf_10 kiconst_1 ?_
  refine q_istore_n (lv' := [(1, .int 1), (0, .ref 0)]) eX11_tellIf_11 rfl (by decide) rfl ?_
  exact q_sub [1, 0] rfl (jX11_tellIf_l12 X l 1 w2)
def fX11_tellStroke_n97 (rec80 : Int32 → Int32 → Int32 → Int32 → q_W → Option (Unit × q_W)) (x1 : Int32) (x3 : Int32) (x4 : Int32) (x5 : Int32) (w : q_W) : Option (Unit × q_W) :=
  q_b (fX11_expression w) fun r1 w2 =>
  q_lt (x5 + 1) fun y3 =>
  rec80 x1 x3 x4 y3 w2
set_option maxHeartbeats 4000000 in
set_option maxRecDepth 100000 in
theorem jX11_tellStroke_n97 (X : q_X) (l : Launch) (rec80 : Int32 → Int32 → Int32 → Int32 → q_W → Option (Unit × q_W)) (hr80 : ∀ x1 x3 x4 x5 w, q_J X S_R l mX11_tellStroke 5 q_tV 80 [(0, .ref 0), (1, .int x1), (3, .int x3), (4, .int x4), (5, .int x5)] [] w (rec80 x1 x3 x4 x5 w)) (x1 : Int32) (x3 : Int32) (x4 : Int32) (x5 : Int32) (w : q_W) : q_J X S_R l mX11_tellStroke 5 q_tV 97 [(0, .ref 0), (1, .int x1), (3, .int x3), (4, .int x4), (5, .int x5)] [] w (fX11_tellStroke_n97 rec80 x1 x3 x4 x5 w) := by
  refine q_aload_n 0 eX11_tellStroke_97 rfl rfl ?_
  refine q_callVV (As := []) (st := []) eX11_tellStroke_98 cv_11_262 (kX11_expression X l w) tR_0 rfl (by decide) rfl rfl (Nat.le_of_ble_eq_true rfl) (by decide) (fun r1 w2 => ?_)
  refine q_ltE (fun y3 hy3 => ?_)
  refine q_iinc (v := y3) (lv' := [(5, .int y3), (0, .ref 0), (1, .int x1), (3, .int x3), (4, .int x4)]) 4 eX11_tellStroke_101 rfl hy3 (by decide) rfl ?_
  refine q_goto (tgt := 80) eX11_tellStroke_104 (by decide) ?_
  exact q_sub [1, 2, 3, 4, 0] rfl (hr80 x1 x3 x4 y3 w2)
def fX11_tellStroke_h80 (rec80 : Int32 → Int32 → Int32 → Int32 → q_W → Option (Unit × q_W)) (x1 : Int32) (x3 : Int32) (x4 : Int32) (x5 : Int32) (w : q_W) : Option (Unit × q_W) :=
  if x4 ≤ x5 then
    q_b (fX11_must 4 w) fun r1 w2 =>
    if (w2.1 0 13) = 0 then
      q_b (fX11_emit 9 x1 x3 w2) fun r3 w4 =>
      some ((), w4)
    else
      some ((), w2)
  else
    if x5 ≤ 0 then
      fX11_tellStroke_n97 rec80 x1 x3 x4 x5 w
    else
      q_b (fX11_must 5 w) fun r5 w6 =>
      fX11_tellStroke_n97 rec80 x1 x3 x4 x5 w6
def fX11_tellStroke_l80 : Int32 → Int32 → Int32 → Int32 → q_W → Option (Unit × q_W) := q_it q_N (fX11_tellStroke_h80) (fun _ _ _ _ _ => none)
set_option maxHeartbeats 4000000 in
set_option maxRecDepth 100000 in
theorem jX11_tellStroke_h80 (X : q_X) (l : Launch) (rec80 : Int32 → Int32 → Int32 → Int32 → q_W → Option (Unit × q_W)) (hr80 : ∀ x1 x3 x4 x5 w, q_J X S_R l mX11_tellStroke 5 q_tV 80 [(0, .ref 0), (1, .int x1), (3, .int x3), (4, .int x4), (5, .int x5)] [] w (rec80 x1 x3 x4 x5 w)) : ∀ x1 x3 x4 x5 w, q_J X S_R l mX11_tellStroke 5 q_tV 80 [(0, .ref 0), (1, .int x1), (3, .int x3), (4, .int x4), (5, .int x5)] [] w (fX11_tellStroke_h80 rec80 x1 x3 x4 x5 w) := by
  intro x1 x3 x4 x5 w
  refine q_iload 4 eX11_tellStroke_80 rfl ?_
  refine q_iload 3 eX11_tellStroke_82 rfl ?_
  refine q_icmp_ge (tgt := 107) eX11_tellStroke_84 (by decide) (fun _ => ?_) (fun _ => ?_)
  · refine q_aload_n 0 eX11_tellStroke_107 rfl rfl ?_
    refine q_iconst eX11_tellStroke_108 kiconst_4 ?_
    refine q_callVV (As := [.int 4]) (st := []) eX11_tellStroke_109 cv_11_225 (kX11_must X l 4 w) tR_0 rfl (by decide) rfl rfl (Nat.le_of_ble_eq_true rfl) (by decide) (fun r1 w2 => ?_)
    refine q_aload_n 0 eX11_tellStroke_112 rfl rfl ?_
    refine q_getI eX11_tellStroke_113 fl_11_173 tR_0 rfl ?_
    refine q_if_ne (tgt := 127) eX11_tellStroke_116 (by decide) (fun _ => ?_) (fun _ => ?_)
    · refine q_aload_n 0 eX11_tellStroke_119 rfl rfl ?_
      refine q_bipush eX11_tellStroke_120 kbipush_9 ?_
      refine q_iload_n 1 eX11_tellStroke_122 rfl rfl ?_
      refine q_iload_n 2 eX11_tellStroke_123 rfl rfl ?_
      refine q_callVV (As := [.int 9, .int x1, .int x3]) (st := []) eX11_tellStroke_124 cv_11_246 (kX11_emit X l 9 x1 x3 w2) tR_0 rfl (by decide) rfl rfl (Nat.le_of_ble_eq_true rfl) (by decide) (fun r3 w4 => ?_)
      exact q_return eX11_tellStroke_127 rfl
    · exact q_return eX11_tellStroke_127 rfl
  · refine q_iload 4 eX11_tellStroke_87 rfl ?_
    refine q_if_le (tgt := 97) eX11_tellStroke_89 (by decide) (fun _ => ?_) (fun _ => ?_)
    · exact q_sub [0, 1, 2, 3, 4] rfl (jX11_tellStroke_n97 X l rec80 hr80 x1 x3 x4 x5 w)
    · refine q_aload_n 0 eX11_tellStroke_92 rfl rfl ?_
      refine q_iconst eX11_tellStroke_93 kiconst_5 ?_
      refine q_callVV (As := [.int 5]) (st := []) eX11_tellStroke_94 cv_11_225 (kX11_must X l 5 w) tR_0 rfl (by decide) rfl rfl (Nat.le_of_ble_eq_true rfl) (by decide) (fun r5 w6 => ?_)
      exact q_sub [0, 1, 2, 3, 4] rfl (jX11_tellStroke_n97 X l rec80 hr80 x1 x3 x4 x5 w6)
set_option maxHeartbeats 4000000 in
set_option maxRecDepth 100000 in
theorem jX11_tellStroke_l80 (X : q_X) (l : Launch) : ∀ x1 x3 x4 x5 w, q_J X S_R l mX11_tellStroke 5 q_tV 80 [(0, .ref 0), (1, .int x1), (3, .int x3), (4, .int x4), (5, .int x5)] [] w (fX11_tellStroke_l80 x1 x3 x4 x5 w) := by
  exact q_it_ind (fun rc => ∀ x1 x3 x4 x5 w, q_J X S_R l mX11_tellStroke 5 q_tV 80 [(0, .ref 0), (1, .int x1), (3, .int x3), (4, .int x4), (5, .int x5)] [] w (rc x1 x3 x4 x5 w)) _ _ (fun _ _ _ _ _ => q_none) (fun rc hrc => jX11_tellStroke_h80 X l rc hrc) q_N
def fX11_tellStroke_n75 (x1 : Int32) (x3 : Int32) (s0 : Int32) (w : q_W) : Option (Unit × q_W) :=
  fX11_tellStroke_l80 x1 x3 s0 0 w
set_option maxHeartbeats 4000000 in
set_option maxRecDepth 100000 in
theorem jX11_tellStroke_n75 (X : q_X) (l : Launch) (x1 : Int32) (x3 : Int32) (s0 : Int32) (w : q_W) : q_J X S_R l mX11_tellStroke 5 q_tV 75 [(0, .ref 0), (1, .int x1), (3, .int x3)] [.int s0] w (fX11_tellStroke_n75 x1 x3 s0 w) := by
  refine q_istore (lv' := [(4, .int s0), (0, .ref 0), (1, .int x1), (3, .int x3)]) eX11_tellStroke_75 (by decide) rfl ?_
  refine q_iconst eX11_tellStroke_77 kiconst_0 ?_
  refine q_istore (lv' := [(5, .int 0), (4, .int s0), (0, .ref 0), (1, .int x1), (3, .int x3)]) eX11_tellStroke_78 (by decide) rfl ?_
  exact q_sub [2, 3, 4, 1, 0] rfl (jX11_tellStroke_l80 X l x1 x3 s0 0 w)
def fX11_tellStroke_n48 (x1 : Int32) (x3 : Int32) (w : q_W) : Option (Unit × q_W) :=
  if x1 = 0 then
    fX11_tellStroke_n75 x1 x3 4 w
  else
    if x1 = 1 then
      fX11_tellStroke_n75 x1 x3 3 w
    else
      if x1 = 2 then
        fX11_tellStroke_n75 x1 x3 5 w
      else
        fX11_tellStroke_n75 x1 x3 2 w
set_option maxHeartbeats 4000000 in
set_option maxRecDepth 100000 in
theorem jX11_tellStroke_n48 (X : q_X) (l : Launch) (x1 : Int32) (x3 : Int32) (w : q_W) : q_J X S_R l mX11_tellStroke 5 q_tV 48 [(0, .ref 0), (1, .int x1), (3, .int x3)] [] w (fX11_tellStroke_n48 x1 x3 w) := by
  refine q_iload_n 1 eX11_tellStroke_48 rfl rfl ?_
  refine q_if_ne (tgt := 56) eX11_tellStroke_49 (by decide) (fun _ => ?_) (fun _ => ?_)
  · refine q_iconst eX11_tellStroke_52 kiconst_4 ?_
    refine q_goto (tgt := 75) eX11_tellStroke_53 (by decide) ?_
    exact q_sub [0, 1, 2] rfl (jX11_tellStroke_n75 X l x1 x3 4 w)
  · refine q_iload_n 1 eX11_tellStroke_56 rfl rfl ?_
    refine q_iconst eX11_tellStroke_57 kiconst_1 ?_
    refine q_icmp_ne (tgt := 65) eX11_tellStroke_58 (by decide) (fun _ => ?_) (fun _ => ?_)
    · refine q_iconst eX11_tellStroke_61 kiconst_3 ?_
      refine q_goto (tgt := 75) eX11_tellStroke_62 (by decide) ?_
      exact q_sub [0, 1, 2] rfl (jX11_tellStroke_n75 X l x1 x3 3 w)
    · refine q_iload_n 1 eX11_tellStroke_65 rfl rfl ?_
      refine q_iconst eX11_tellStroke_66 kiconst_2 ?_
      refine q_icmp_ne (tgt := 74) eX11_tellStroke_67 (by decide) (fun _ => ?_) (fun _ => ?_)
      · refine q_iconst eX11_tellStroke_70 kiconst_5 ?_
        refine q_goto (tgt := 75) eX11_tellStroke_71 (by decide) ?_
        exact q_sub [0, 1, 2] rfl (jX11_tellStroke_n75 X l x1 x3 5 w)
      · refine q_iconst eX11_tellStroke_74 kiconst_2 ?_
        exact q_sub [0, 1, 2] rfl (jX11_tellStroke_n75 X l x1 x3 2 w)
def fX11_tellStroke_n43 (x1 : Int32) (s0 : Int32) (w : q_W) : Option (Unit × q_W) :=
  q_b (fX11_next w) fun r1 w2 =>
  fX11_tellStroke_n48 x1 s0 w2
set_option maxHeartbeats 4000000 in
set_option maxRecDepth 100000 in
theorem jX11_tellStroke_n43 (X : q_X) (l : Launch) (x1 : Int32) (s0 : Int32) (w : q_W) : q_J X S_R l mX11_tellStroke 5 q_tV 43 [(0, .ref 0), (1, .int x1)] [.int s0] w (fX11_tellStroke_n43 x1 s0 w) := by
  refine q_istore_n (lv' := [(3, .int s0), (0, .ref 0), (1, .int x1)]) eX11_tellStroke_43 rfl (by decide) rfl ?_
  refine q_aload_n 1 eX11_tellStroke_44 rfl rfl ?_
  refine q_callVV (As := []) (st := []) eX11_tellStroke_45 cv_11_194 (kX11_next X l w) tR_0 rfl (by decide) rfl rfl (Nat.le_of_ble_eq_true rfl) (by decide) (fun r1 w2 => ?_)
  exact q_sub [1, 2, 0] rfl (jX11_tellStroke_n48 X l x1 s0 w2)
def fX11_tellStroke_n29 (x1 : Int32) (w : q_W) : Option (Unit × q_W) :=
  q_b (fX11_is 34 w) fun r1 w2 =>
  if r1 = 0 then
    fX11_tellStroke_n43 x1 0 w2
  else
    fX11_tellStroke_n43 x1 1 w2
set_option maxHeartbeats 4000000 in
set_option maxRecDepth 100000 in
theorem jX11_tellStroke_n29 (X : q_X) (l : Launch) (x1 : Int32) (w : q_W) : q_J X S_R l mX11_tellStroke 5 q_tV 29 [(0, .ref 0), (1, .int x1)] [] w (fX11_tellStroke_n29 x1 w) := by
  refine q_aload_n 0 eX11_tellStroke_29 rfl rfl ?_
  refine q_bipush eX11_tellStroke_30 kbipush_34 ?_
  refine q_callVI (As := [.int 34]) (st := []) eX11_tellStroke_32 cv_11_191 (kX11_is X l 34 w) tR_0 rfl (by decide) rfl rfl (Nat.le_of_ble_eq_true rfl) (by decide) (fun r1 w2 => ?_)
  refine q_if_eq (tgt := 42) eX11_tellStroke_35 (by decide) (fun _ => ?_) (fun _ => ?_)
  · refine q_iconst eX11_tellStroke_42 kiconst_0 ?_
    exact q_sub [0, 1] rfl (jX11_tellStroke_n43 X l x1 0 w2)
  · refine q_iconst eX11_tellStroke_38 kiconst_1 ?_
    refine q_goto (tgt := 43) eX11_tellStroke_39 (by decide) ?_
    exact q_sub [0, 1] rfl (jX11_tellStroke_n43 X l x1 1 w2)
def fX11_tellStroke (a1 : Int32) (a2 : Int32) (w : q_W) : Option (Unit × q_W) :=
  if a1 ≤ 0 then
    fX11_tellStroke_n48 a1 0 w
  else
    q_b (fX11_is 33 w) fun r1 w2 =>
    if r1 = 0 then
      q_b (fX11_is 34 w2) fun r3 w4 =>
      if r3 = 0 then
        q_b (fX11_fail 1 w4) fun r5 w6 =>
        fX11_tellStroke_n29 a1 w6
      else
        fX11_tellStroke_n29 a1 w4
    else
      fX11_tellStroke_n29 a1 w2
set_option maxHeartbeats 4000000 in
set_option maxRecDepth 100000 in
theorem kX11_tellStroke (X : q_X) (l : Launch) (a1 : Int32) (a2 : Int32) (w : q_W) : q_Ct X S_R l mX11_tellStroke 5 q_tV [.ref 0, .int a1, .int a2] w (fX11_tellStroke a1 a2 w) := by
  refine q_intro (lv := [(0, .ref 0), (1, .int a1), (2, .int a2)]) (by decide +kernel) rfl (Nat.le_of_ble_eq_true rfl) rfl ?_
  refine q_iconst eX11_tellStroke_0 kiconst_0 ?_
  refine q_istore_n (lv' := [(3, .int 0), (0, .ref 0), (1, .int a1), (2, .int a2)]) eX11_tellStroke_1 rfl (by decide) rfl ?_
  refine q_iload_n 2 eX11_tellStroke_2 rfl rfl ?_
  refine q_if_le (tgt := 48) eX11_tellStroke_3 (by decide) (fun _ => ?_) (fun _ => ?_)
  · exact q_sub [1, 2, 0] rfl (jX11_tellStroke_n48 X l a1 0 w)
  · refine q_aload_n 1 eX11_tellStroke_6 rfl rfl ?_
    refine q_bipush eX11_tellStroke_7 kbipush_33 ?_
    refine q_callVI (As := [.int 33]) (st := []) eX11_tellStroke_9 cv_11_191 (kX11_is X l 33 w) tR_0 rfl (by decide) rfl rfl (Nat.le_of_ble_eq_true rfl) (by decide) (fun r1 w2 => ?_)
    refine q_if_ne (tgt := 29) eX11_tellStroke_12 (by decide) (fun _ => ?_) (fun _ => ?_)
    · refine q_aload_n 1 eX11_tellStroke_15 rfl rfl ?_
      refine q_bipush eX11_tellStroke_16 kbipush_34 ?_
      refine q_callVI (As := [.int 34]) (st := []) eX11_tellStroke_18 cv_11_191 (kX11_is X l 34 w2) tR_0 rfl (by decide) rfl rfl (Nat.le_of_ble_eq_true rfl) (by decide) (fun r3 w4 => ?_)
      refine q_if_ne (tgt := 29) eX11_tellStroke_21 (by decide) (fun _ => ?_) (fun _ => ?_)
      · refine q_aload_n 1 eX11_tellStroke_24 rfl rfl ?_
        refine q_iconst eX11_tellStroke_25 kiconst_1 ?_
        refine q_callVV (As := [.int 1]) (st := []) eX11_tellStroke_26 cv_11_188 (kX11_fail X l 1 w4) tR_0 rfl (by decide) rfl rfl (Nat.le_of_ble_eq_true rfl) (by decide) (fun r5 w6 => ?_)
        exact q_sub [1, 2] rfl (jX11_tellStroke_n29 X l a1 w6)
      · exact q_sub [1, 2] rfl (jX11_tellStroke_n29 X l a1 w4)
    · exact q_sub [1, 2] rfl (jX11_tellStroke_n29 X l a1 w2)
def fX11_turnsElse (w : q_W) : Option (Unit × q_W) :=
  q_lt ((w.1 0 30) - 1) fun y1 =>
  q_b (fX11_emit 13 0 (-1) w) fun r2 w3 =>
  if q_inb y1 8 then
  q_b (fX11_lands (w3.1 17 (q_ix y1)) w3) fun r4 w5 =>
  if q_inb y1 8 then
  q_lt (q_sI w5 16 (q_ix y1) 3) fun w6 =>
  if q_inb y1 8 then
  q_lt (q_sI w6 17 (q_ix y1) ((w6.1 0 24) - 1)) fun w7 =>
  some ((), w7)
  else none
  else none
  else none
set_option maxHeartbeats 4000000 in
set_option maxRecDepth 100000 in
theorem kX11_turnsElse (X : q_X) (l : Launch) (w : q_W) : q_Ct X S_R l mX11_turnsElse 1 q_tV [.ref 0] w (fX11_turnsElse w) := by
  refine q_intro (lv := [(0, .ref 0)]) (by decide +kernel) rfl (Nat.le_of_ble_eq_true rfl) rfl ?_
  refine q_aload_n 0 eX11_turnsElse_0 rfl rfl ?_
  refine q_getI eX11_turnsElse_1 fl_11_231 tR_0 rfl ?_
  refine q_iconst eX11_turnsElse_4 kiconst_1 ?_
  refine q_isub eX11_turnsElse_5 ?_
  refine q_ltI (fun y1 => ?_)
  refine q_istore_n (lv' := [(1, .int y1), (0, .ref 0)]) eX11_turnsElse_6 rfl (by decide) rfl ?_
  refine q_aload_n 1 eX11_turnsElse_7 rfl rfl ?_
  refine q_bipush eX11_turnsElse_8 kbipush_13 ?_
  refine q_iconst eX11_turnsElse_10 kiconst_0 ?_
  refine q_iconst eX11_turnsElse_11 kiconst_m1 ?_
  refine q_callVV (As := [.int 13, .int 0, .int (-1)]) (st := []) eX11_turnsElse_12 cv_11_246 (kX11_emit X l 13 0 (-1) w) tR_0 rfl (by decide) rfl rfl (Nat.le_of_ble_eq_true rfl) (by decide) (fun r2 w3 => ?_)
  refine q_aload_n 1 eX11_turnsElse_15 rfl rfl ?_
  refine q_aload_n 1 eX11_turnsElse_16 rfl rfl ?_
  refine q_getG (v := 17) eX11_turnsElse_17 fl_11_67 tR_0 rfl gR_0_32 ?_
  refine q_iload_n 0 eX11_turnsElse_20 rfl rfl ?_
  refine q_iald eX11_turnsElse_21 tR_17 nR_17 ?_
  refine q_callVV (As := [.int (w3.1 17 (q_ix y1))]) (st := []) eX11_turnsElse_22 cv_11_274 (kX11_lands X l (w3.1 17 (q_ix y1)) w3) tR_0 rfl (by decide) rfl rfl (Nat.le_of_ble_eq_true rfl) (by decide) (fun r4 w5 => ?_)
  refine q_aload_n 1 eX11_turnsElse_25 rfl rfl ?_
  refine q_getG (v := 16) eX11_turnsElse_26 fl_11_64 tR_0 rfl gR_0_31 ?_
  refine q_iload_n 0 eX11_turnsElse_29 rfl rfl ?_
  refine q_iconst eX11_turnsElse_30 kiconst_3 ?_
  refine q_iast eX11_turnsElse_31 tR_16 nR_16 ?_
  refine q_ltW (fun w6 => ?_)
  refine q_aload_n 1 eX11_turnsElse_32 rfl rfl ?_
  refine q_getG (v := 17) eX11_turnsElse_33 fl_11_67 tR_0 rfl gR_0_32 ?_
  refine q_iload_n 0 eX11_turnsElse_36 rfl rfl ?_
  refine q_aload_n 1 eX11_turnsElse_37 rfl rfl ?_
  refine q_getI eX11_turnsElse_38 fl_11_212 tR_0 rfl ?_
  refine q_iconst eX11_turnsElse_41 kiconst_1 ?_
  refine q_isub eX11_turnsElse_42 ?_
  refine q_iast eX11_turnsElse_43 tR_17 nR_17 ?_
  refine q_ltW (fun w7 => ?_)
  exact q_return eX11_turnsElse_44 rfl
def fX11_tellDeed_n177 (x1 : Int32) (x2 : Int32) (w : q_W) : Option (Unit × q_W) :=
  if (w.1 0 13) ≤ 0 then
    q_lt (w.1 0 11) fun y1 =>
    if q_inb y1 503 then
    q_lt (w.1 3 (q_ix y1)) fun y2 =>
    q_b (fX11_emit 8 x2 0 w) fun r3 w4 =>
    q_b (fX11_next w4) fun r5 w6 =>
    if y2 = 26 then
      q_b (fX11_tellFor x2 w6) fun r7 w8 =>
      some ((), w8)
    else
      if y2 = 28 then
        q_b (fX11_tellIf w6) fun r9 w10 =>
        some ((), w10)
      else
        if y2 = 30 then
          q_b (fX11_tellDo w6) fun r11 w12 =>
          some ((), w12)
        else
          q_b (fX11_tellStroke (y2 - 22) x1 w6) fun r13 w14 =>
          some ((), w14)
    else none
  else
    some ((), w)
set_option maxHeartbeats 4000000 in
set_option maxRecDepth 100000 in
theorem jX11_tellDeed_n177 (X : q_X) (l : Launch) (x1 : Int32) (x2 : Int32) (w : q_W) : q_J X S_R l mX11_tellDeed 7 q_tV 177 [(0, .ref 0), (1, .int x1), (2, .int x2)] [] w (fX11_tellDeed_n177 x1 x2 w) := by
  refine q_aload_n 0 eX11_tellDeed_177 rfl rfl ?_
  refine q_getI eX11_tellDeed_178 fl_11_173 tR_0 rfl ?_
  refine q_if_le (tgt := 185) eX11_tellDeed_181 (by decide) (fun _ => ?_) (fun _ => ?_)
  · refine q_aload_n 0 eX11_tellDeed_185 rfl rfl ?_
    refine q_getG (v := 3) eX11_tellDeed_186 fl_11_20 tR_0 rfl gR_0_5 ?_
    refine q_aload_n 0 eX11_tellDeed_189 rfl rfl ?_
    refine q_getI eX11_tellDeed_190 fl_11_176 tR_0 rfl ?_
    refine q_ltI (fun y1 => ?_)
    refine q_iald eX11_tellDeed_193 tR_3 nR_3 ?_
    refine q_ltI (fun y2 => ?_)
    refine q_istore (lv' := [(5, .int y2), (0, .ref 0), (1, .int x1), (2, .int x2)]) eX11_tellDeed_194 (by decide) rfl ?_
    refine q_aload_n 1 eX11_tellDeed_196 rfl rfl ?_
    refine q_bipush eX11_tellDeed_197 kbipush_8 ?_
    refine q_iload_n 3 eX11_tellDeed_199 rfl rfl ?_
    refine q_iconst eX11_tellDeed_200 kiconst_0 ?_
    refine q_callVV (As := [.int 8, .int x2, .int 0]) (st := []) eX11_tellDeed_201 cv_11_246 (kX11_emit X l 8 x2 0 w) tR_0 rfl (by decide) rfl rfl (Nat.le_of_ble_eq_true rfl) (by decide) (fun r3 w4 => ?_)
    refine q_aload_n 1 eX11_tellDeed_204 rfl rfl ?_
    refine q_callVV (As := []) (st := []) eX11_tellDeed_205 cv_11_194 (kX11_next X l w4) tR_0 rfl (by decide) rfl rfl (Nat.le_of_ble_eq_true rfl) (by decide) (fun r5 w6 => ?_)
    refine q_iload 0 eX11_tellDeed_208 rfl ?_
    refine q_bipush eX11_tellDeed_210 kbipush_26 ?_
    refine q_icmp_ne (tgt := 223) eX11_tellDeed_212 (by decide) (fun _ => ?_) (fun _ => ?_)
    · refine q_aload_n 1 eX11_tellDeed_215 rfl rfl ?_
      refine q_iload_n 3 eX11_tellDeed_216 rfl rfl ?_
      refine q_callVV (As := [.int x2]) (st := []) eX11_tellDeed_217 cv_11_250 (kX11_tellFor X l x2 w6) tR_0 rfl (by decide) rfl rfl (Nat.le_of_ble_eq_true rfl) (by decide) (fun r7 w8 => ?_)
      refine q_goto (tgt := 261) eX11_tellDeed_220 (by decide) ?_
      exact q_return eX11_tellDeed_261 rfl
    · refine q_iload 0 eX11_tellDeed_223 rfl ?_
      refine q_bipush eX11_tellDeed_225 kbipush_28 ?_
      refine q_icmp_ne (tgt := 237) eX11_tellDeed_227 (by decide) (fun _ => ?_) (fun _ => ?_)
      · refine q_aload_n 1 eX11_tellDeed_230 rfl rfl ?_
        refine q_callVV (As := []) (st := []) eX11_tellDeed_231 cv_11_253 (kX11_tellIf X l w6) tR_0 rfl (by decide) rfl rfl (Nat.le_of_ble_eq_true rfl) (by decide) (fun r9 w10 => ?_)
        refine q_goto (tgt := 261) eX11_tellDeed_234 (by decide) ?_
        exact q_return eX11_tellDeed_261 rfl
      · refine q_iload 0 eX11_tellDeed_237 rfl ?_
        refine q_bipush eX11_tellDeed_239 kbipush_30 ?_
        refine q_icmp_ne (tgt := 251) eX11_tellDeed_241 (by decide) (fun _ => ?_) (fun _ => ?_)
        · refine q_aload_n 1 eX11_tellDeed_244 rfl rfl ?_
          refine q_callVV (As := []) (st := []) eX11_tellDeed_245 cv_11_256 (kX11_tellDo X l w6) tR_0 rfl (by decide) rfl rfl (Nat.le_of_ble_eq_true rfl) (by decide) (fun r11 w12 => ?_)
          refine q_goto (tgt := 261) eX11_tellDeed_248 (by decide) ?_
          exact q_return eX11_tellDeed_261 rfl
        · refine q_aload_n 1 eX11_tellDeed_251 rfl rfl ?_
          refine q_iload 0 eX11_tellDeed_252 rfl ?_
          refine q_bipush eX11_tellDeed_254 kbipush_22 ?_
          refine q_isub eX11_tellDeed_256 ?_
          refine q_iload_n 2 eX11_tellDeed_257 rfl rfl ?_
          refine q_callVV (As := [.int (y2 - 22), .int x1]) (st := []) eX11_tellDeed_258 cv_11_259 (kX11_tellStroke X l (y2 - 22) x1 w6) tR_0 rfl (by decide) rfl rfl (Nat.le_of_ble_eq_true rfl) (by decide) (fun r13 w14 => ?_)
          exact q_return eX11_tellDeed_261 rfl
  · exact q_return eX11_tellDeed_184 rfl
def fX11_tellDeed_n144 (x1 : Int32) (x2 : Int32) (x3 : Int32) (s0 : Int32) (w : q_W) : Option (Unit × q_W) :=
  if s0 = 0 then
    q_b (fX11_fail 1 w) fun r1 w2 =>
    fX11_tellDeed_n177 x1 x2 w2
  else
    if x3 = 0 then
      fX11_tellDeed_n177 x1 x2 w
    else
      if (w.1 0 30) = 7 then
        q_b (fX11_fail 2 w) fun r3 w4 =>
        fX11_tellDeed_n177 x1 x2 w4
      else
        fX11_tellDeed_n177 x1 x2 w
set_option maxHeartbeats 4000000 in
set_option maxRecDepth 100000 in
theorem jX11_tellDeed_n144 (X : q_X) (l : Launch) (x1 : Int32) (x2 : Int32) (x3 : Int32) (s0 : Int32) (w : q_W) : q_J X S_R l mX11_tellDeed 7 q_tV 144 [(0, .ref 0), (1, .int x1), (2, .int x2), (3, .int x3)] [.int s0] w (fX11_tellDeed_n144 x1 x2 x3 s0 w) := by
  refine q_istore (lv' := [(4, .int s0), (0, .ref 0), (1, .int x1), (2, .int x2), (3, .int x3)]) eX11_tellDeed_144 (by decide) rfl ?_
  refine q_iload 0 eX11_tellDeed_146 rfl ?_
  refine q_if_ne (tgt := 159) eX11_tellDeed_148 (by decide) (fun _ => ?_) (fun _ => ?_)
  · refine q_aload_n 1 eX11_tellDeed_151 rfl rfl ?_
    refine q_iconst eX11_tellDeed_152 kiconst_1 ?_
    refine q_callVV (As := [.int 1]) (st := []) eX11_tellDeed_153 cv_11_188 (kX11_fail X l 1 w) tR_0 rfl (by decide) rfl rfl (Nat.le_of_ble_eq_true rfl) (by decide) (fun r1 w2 => ?_)
    refine q_goto (tgt := 177) eX11_tellDeed_156 (by decide) ?_
    exact q_sub [1, 2, 3] rfl (jX11_tellDeed_n177 X l x1 x2 w2)
  · refine q_iload_n 4 eX11_tellDeed_159 rfl rfl ?_
    refine q_if_eq (tgt := 177) eX11_tellDeed_160 (by decide) (fun _ => ?_) (fun _ => ?_)
    · exact q_sub [1, 2, 3] rfl (jX11_tellDeed_n177 X l x1 x2 w)
    · refine q_aload_n 1 eX11_tellDeed_163 rfl rfl ?_
      refine q_getI eX11_tellDeed_164 fl_11_231 tR_0 rfl ?_
      refine q_bipush eX11_tellDeed_167 kbipush_7 ?_
      refine q_icmp_ne (tgt := 177) eX11_tellDeed_169 (by decide) (fun _ => ?_) (fun _ => ?_)
      · refine q_aload_n 1 eX11_tellDeed_172 rfl rfl ?_
        refine q_iconst eX11_tellDeed_173 kiconst_2 ?_
        refine q_callVV (As := [.int 2]) (st := []) eX11_tellDeed_174 cv_11_188 (kX11_fail X l 2 w) tR_0 rfl (by decide) rfl rfl (Nat.le_of_ble_eq_true rfl) (by decide) (fun r3 w4 => ?_)
        exact q_sub [1, 2, 3] rfl (jX11_tellDeed_n177 X l x1 x2 w4)
      · exact q_sub [1, 2, 3] rfl (jX11_tellDeed_n177 X l x1 x2 w)
def fX11_tellDeed_n139 (x1 : Int32) (x2 : Int32) (x3 : Int32) (w : q_W) : Option (Unit × q_W) :=
  fX11_tellDeed_n144 x1 x2 x3 1 w
set_option maxHeartbeats 4000000 in
set_option maxRecDepth 100000 in
theorem jX11_tellDeed_n139 (X : q_X) (l : Launch) (x1 : Int32) (x2 : Int32) (x3 : Int32) (w : q_W) : q_J X S_R l mX11_tellDeed 7 q_tV 139 [(0, .ref 0), (1, .int x1), (2, .int x2), (3, .int x3)] [] w (fX11_tellDeed_n139 x1 x2 x3 w) := by
  refine q_iconst eX11_tellDeed_139 kiconst_1 ?_
  refine q_goto (tgt := 144) eX11_tellDeed_140 (by decide) ?_
  exact q_sub [0, 1, 2, 3] rfl (jX11_tellDeed_n144 X l x1 x2 x3 1 w)
def fX11_tellDeed_n89 (x1 : Int32) (x2 : Int32) (s0 : Int32) (w : q_W) : Option (Unit × q_W) :=
  if s0 = 0 then
    q_b (fX11_is 22 w) fun r1 w2 =>
    if r1 = 0 then
      q_b (fX11_is 23 w2) fun r3 w4 =>
      if r3 = 0 then
        q_b (fX11_is 24 w4) fun r5 w6 =>
        if r5 = 0 then
          q_b (fX11_is 25 w6) fun r7 w8 =>
          if r7 = 0 then
            q_b (fX11_is 30 w8) fun r9 w10 =>
            if r9 = 0 then
              fX11_tellDeed_n144 x1 x2 s0 0 w10
            else
              fX11_tellDeed_n139 x1 x2 s0 w10
          else
            fX11_tellDeed_n139 x1 x2 s0 w8
        else
          fX11_tellDeed_n139 x1 x2 s0 w6
      else
        fX11_tellDeed_n139 x1 x2 s0 w4
    else
      fX11_tellDeed_n139 x1 x2 s0 w2
  else
    fX11_tellDeed_n139 x1 x2 s0 w
set_option maxHeartbeats 4000000 in
set_option maxRecDepth 100000 in
theorem jX11_tellDeed_n89 (X : q_X) (l : Launch) (x1 : Int32) (x2 : Int32) (s0 : Int32) (w : q_W) : q_J X S_R l mX11_tellDeed 7 q_tV 89 [(0, .ref 0), (1, .int x1), (2, .int x2)] [.int s0] w (fX11_tellDeed_n89 x1 x2 s0 w) := by
  refine q_istore_n (lv' := [(3, .int s0), (0, .ref 0), (1, .int x1), (2, .int x2)]) eX11_tellDeed_89 rfl (by decide) rfl ?_
  refine q_iload_n 0 eX11_tellDeed_90 rfl rfl ?_
  refine q_if_ne (tgt := 139) eX11_tellDeed_91 (by decide) (fun _ => ?_) (fun _ => ?_)
  · refine q_aload_n 1 eX11_tellDeed_94 rfl rfl ?_
    refine q_bipush eX11_tellDeed_95 kbipush_22 ?_
    refine q_callVI (As := [.int 22]) (st := []) eX11_tellDeed_97 cv_11_191 (kX11_is X l 22 w) tR_0 rfl (by decide) rfl rfl (Nat.le_of_ble_eq_true rfl) (by decide) (fun r1 w2 => ?_)
    refine q_if_ne (tgt := 139) eX11_tellDeed_100 (by decide) (fun _ => ?_) (fun _ => ?_)
    · refine q_aload_n 1 eX11_tellDeed_103 rfl rfl ?_
      refine q_bipush eX11_tellDeed_104 kbipush_23 ?_
      refine q_callVI (As := [.int 23]) (st := []) eX11_tellDeed_106 cv_11_191 (kX11_is X l 23 w2) tR_0 rfl (by decide) rfl rfl (Nat.le_of_ble_eq_true rfl) (by decide) (fun r3 w4 => ?_)
      refine q_if_ne (tgt := 139) eX11_tellDeed_109 (by decide) (fun _ => ?_) (fun _ => ?_)
      · refine q_aload_n 1 eX11_tellDeed_112 rfl rfl ?_
        refine q_bipush eX11_tellDeed_113 kbipush_24 ?_
        refine q_callVI (As := [.int 24]) (st := []) eX11_tellDeed_115 cv_11_191 (kX11_is X l 24 w4) tR_0 rfl (by decide) rfl rfl (Nat.le_of_ble_eq_true rfl) (by decide) (fun r5 w6 => ?_)
        refine q_if_ne (tgt := 139) eX11_tellDeed_118 (by decide) (fun _ => ?_) (fun _ => ?_)
        · refine q_aload_n 1 eX11_tellDeed_121 rfl rfl ?_
          refine q_bipush eX11_tellDeed_122 kbipush_25 ?_
          refine q_callVI (As := [.int 25]) (st := []) eX11_tellDeed_124 cv_11_191 (kX11_is X l 25 w6) tR_0 rfl (by decide) rfl rfl (Nat.le_of_ble_eq_true rfl) (by decide) (fun r7 w8 => ?_)
          refine q_if_ne (tgt := 139) eX11_tellDeed_127 (by decide) (fun _ => ?_) (fun _ => ?_)
          · refine q_aload_n 1 eX11_tellDeed_130 rfl rfl ?_
            refine q_bipush eX11_tellDeed_131 kbipush_30 ?_
            refine q_callVI (As := [.int 30]) (st := []) eX11_tellDeed_133 cv_11_191 (kX11_is X l 30 w8) tR_0 rfl (by decide) rfl rfl (Nat.le_of_ble_eq_true rfl) (by decide) (fun r9 w10 => ?_)
            refine q_if_eq (tgt := 143) eX11_tellDeed_136 (by decide) (fun _ => ?_) (fun _ => ?_)
            · refine q_iconst eX11_tellDeed_143 kiconst_0 ?_
              exact q_sub [1, 2, 3, 0] rfl (jX11_tellDeed_n144 X l x1 x2 s0 0 w10)
            · exact q_sub [1, 2, 3, 0] rfl (jX11_tellDeed_n139 X l x1 x2 s0 w10)
          · exact q_sub [1, 2, 3, 0] rfl (jX11_tellDeed_n139 X l x1 x2 s0 w8)
        · exact q_sub [1, 2, 3, 0] rfl (jX11_tellDeed_n139 X l x1 x2 s0 w6)
      · exact q_sub [1, 2, 3, 0] rfl (jX11_tellDeed_n139 X l x1 x2 s0 w4)
    · exact q_sub [1, 2, 3, 0] rfl (jX11_tellDeed_n139 X l x1 x2 s0 w2)
  · exact q_sub [1, 2, 3, 0] rfl (jX11_tellDeed_n139 X l x1 x2 s0 w)
def fX11_tellDeed_n84 (x1 : Int32) (x2 : Int32) (w : q_W) : Option (Unit × q_W) :=
  fX11_tellDeed_n89 x1 x2 1 w
set_option maxHeartbeats 4000000 in
set_option maxRecDepth 100000 in
theorem jX11_tellDeed_n84 (X : q_X) (l : Launch) (x1 : Int32) (x2 : Int32) (w : q_W) : q_J X S_R l mX11_tellDeed 7 q_tV 84 [(0, .ref 0), (1, .int x1), (2, .int x2)] [] w (fX11_tellDeed_n84 x1 x2 w) := by
  refine q_iconst eX11_tellDeed_84 kiconst_1 ?_
  refine q_goto (tgt := 89) eX11_tellDeed_85 (by decide) ?_
  exact q_sub [0, 1, 2] rfl (jX11_tellDeed_n89 X l x1 x2 1 w)
def fX11_tellDeed_n66 (x1 : Int32) (x2 : Int32) (w : q_W) : Option (Unit × q_W) :=
  q_b (fX11_is 26 w) fun r1 w2 =>
  if r1 = 0 then
    q_b (fX11_is 28 w2) fun r3 w4 =>
    if r3 = 0 then
      fX11_tellDeed_n89 x1 x2 0 w4
    else
      fX11_tellDeed_n84 x1 x2 w4
  else
    fX11_tellDeed_n84 x1 x2 w2
set_option maxHeartbeats 4000000 in
set_option maxRecDepth 100000 in
theorem jX11_tellDeed_n66 (X : q_X) (l : Launch) (x1 : Int32) (x2 : Int32) (w : q_W) : q_J X S_R l mX11_tellDeed 7 q_tV 66 [(0, .ref 0), (1, .int x1), (2, .int x2)] [] w (fX11_tellDeed_n66 x1 x2 w) := by
  refine q_aload_n 0 eX11_tellDeed_66 rfl rfl ?_
  refine q_bipush eX11_tellDeed_67 kbipush_26 ?_
  refine q_callVI (As := [.int 26]) (st := []) eX11_tellDeed_69 cv_11_191 (kX11_is X l 26 w) tR_0 rfl (by decide) rfl rfl (Nat.le_of_ble_eq_true rfl) (by decide) (fun r1 w2 => ?_)
  refine q_if_ne (tgt := 84) eX11_tellDeed_72 (by decide) (fun _ => ?_) (fun _ => ?_)
  · refine q_aload_n 0 eX11_tellDeed_75 rfl rfl ?_
    refine q_bipush eX11_tellDeed_76 kbipush_28 ?_
    refine q_callVI (As := [.int 28]) (st := []) eX11_tellDeed_78 cv_11_191 (kX11_is X l 28 w2) tR_0 rfl (by decide) rfl rfl (Nat.le_of_ble_eq_true rfl) (by decide) (fun r3 w4 => ?_)
    refine q_if_eq (tgt := 88) eX11_tellDeed_81 (by decide) (fun _ => ?_) (fun _ => ?_)
    · refine q_iconst eX11_tellDeed_88 kiconst_0 ?_
      exact q_sub [0, 1, 2] rfl (jX11_tellDeed_n89 X l x1 x2 0 w4)
    · exact q_sub [0, 1, 2] rfl (jX11_tellDeed_n84 X l x1 x2 w4)
  · exact q_sub [0, 1, 2] rfl (jX11_tellDeed_n84 X l x1 x2 w2)
def fX11_tellDeed (w : q_W) : Option (Unit × q_W) :=
  q_lt (w.1 0 11) fun y1 =>
  q_lt (w.1 0 11) fun y2 =>
  if q_inb y2 503 then
  q_lt (w.1 4 (q_ix y2)) fun y3 =>
  q_b (fX11_is 21 w) fun r4 w5 =>
  if r4 = 0 then
    q_b (fX11_is 29 w5) fun r6 w7 =>
    if r6 = 0 then
      fX11_tellDeed_n66 y1 y3 w7
    else
      q_lt ((w7.1 0 30) - 1) fun y8 =>
      if q_inb y8 8 then
      if (w7.1 16 (q_ix y8)) = 2 then
        q_b (fX11_next w7) fun r9 w10 =>
        q_b (fX11_turnsElse w10) fun r11 w12 =>
        some ((), w12)
      else
        fX11_tellDeed_n66 y1 y3 w7
      else none
  else
    q_b (fX11_next w5) fun r13 w14 =>
    q_b (fX11_ends w14) fun r15 w16 =>
    some ((), w16)
  else none
set_option maxHeartbeats 4000000 in
set_option maxRecDepth 100000 in
theorem kX11_tellDeed (X : q_X) (l : Launch) (w : q_W) : q_Ct X S_R l mX11_tellDeed 7 q_tV [.ref 0] w (fX11_tellDeed w) := by
  refine q_intro (lv := [(0, .ref 0)]) (by decide +kernel) rfl (Nat.le_of_ble_eq_true rfl) rfl ?_
  refine q_aload_n 0 eX11_tellDeed_0 rfl rfl ?_
  refine q_getI eX11_tellDeed_1 fl_11_176 tR_0 rfl ?_
  refine q_ltI (fun y1 => ?_)
  refine q_istore_n (lv' := [(1, .int y1), (0, .ref 0)]) eX11_tellDeed_4 rfl (by decide) rfl ?_
  refine q_aload_n 1 eX11_tellDeed_5 rfl rfl ?_
  refine q_getG (v := 4) eX11_tellDeed_6 fl_11_24 tR_0 rfl gR_0_6 ?_
  refine q_aload_n 1 eX11_tellDeed_9 rfl rfl ?_
  refine q_getI eX11_tellDeed_10 fl_11_176 tR_0 rfl ?_
  refine q_ltI (fun y2 => ?_)
  refine q_iald eX11_tellDeed_13 tR_4 nR_4 ?_
  refine q_ltI (fun y3 => ?_)
  refine q_istore_n (lv' := [(2, .int y3), (1, .int y1), (0, .ref 0)]) eX11_tellDeed_14 rfl (by decide) rfl ?_
  refine q_aload_n 2 eX11_tellDeed_15 rfl rfl ?_
  refine q_bipush eX11_tellDeed_16 kbipush_21 ?_
  refine q_callVI (As := [.int 21]) (st := []) eX11_tellDeed_18 cv_11_191 (kX11_is X l 21 w) tR_0 rfl (by decide) rfl rfl (Nat.le_of_ble_eq_true rfl) (by decide) (fun r4 w5 => ?_)
  refine q_if_eq (tgt := 33) eX11_tellDeed_21 (by decide) (fun _ => ?_) (fun _ => ?_)
  · refine q_aload_n 2 eX11_tellDeed_33 rfl rfl ?_
    refine q_bipush eX11_tellDeed_34 kbipush_29 ?_
    refine q_callVI (As := [.int 29]) (st := []) eX11_tellDeed_36 cv_11_191 (kX11_is X l 29 w5) tR_0 rfl (by decide) rfl rfl (Nat.le_of_ble_eq_true rfl) (by decide) (fun r6 w7 => ?_)
    refine q_if_eq (tgt := 66) eX11_tellDeed_39 (by decide) (fun _ => ?_) (fun _ => ?_)
    · exact q_sub [2, 1, 0] rfl (jX11_tellDeed_n66 X l y1 y3 w7)
    · refine q_aload_n 2 eX11_tellDeed_42 rfl rfl ?_
      refine q_getG (v := 16) eX11_tellDeed_43 fl_11_64 tR_0 rfl gR_0_31 ?_
      refine q_aload_n 2 eX11_tellDeed_46 rfl rfl ?_
      refine q_getI eX11_tellDeed_47 fl_11_231 tR_0 rfl ?_
      refine q_iconst eX11_tellDeed_50 kiconst_1 ?_
      refine q_isub eX11_tellDeed_51 ?_
      refine q_ltI (fun y8 => ?_)
      refine q_iald eX11_tellDeed_52 tR_16 nR_16 ?_
      refine q_iconst eX11_tellDeed_53 kiconst_2 ?_
      refine q_icmp_ne (tgt := 66) eX11_tellDeed_54 (by decide) (fun _ => ?_) (fun _ => ?_)
      · refine q_aload_n 2 eX11_tellDeed_57 rfl rfl ?_
        refine q_callVV (As := []) (st := []) eX11_tellDeed_58 cv_11_194 (kX11_next X l w7) tR_0 rfl (by decide) rfl rfl (Nat.le_of_ble_eq_true rfl) (by decide) (fun r9 w10 => ?_)
        refine q_aload_n 2 eX11_tellDeed_61 rfl rfl ?_
        refine q_callVV (As := []) (st := []) eX11_tellDeed_62 cv_11_243 (kX11_turnsElse X l w10) tR_0 rfl (by decide) rfl rfl (Nat.le_of_ble_eq_true rfl) (by decide) (fun r11 w12 => ?_)
        exact q_return eX11_tellDeed_65 rfl
      · exact q_sub [2, 1, 0] rfl (jX11_tellDeed_n66 X l y1 y3 w7)
  · refine q_aload_n 2 eX11_tellDeed_24 rfl rfl ?_
    refine q_callVV (As := []) (st := []) eX11_tellDeed_25 cv_11_194 (kX11_next X l w5) tR_0 rfl (by decide) rfl rfl (Nat.le_of_ble_eq_true rfl) (by decide) (fun r13 w14 => ?_)
    refine q_aload_n 2 eX11_tellDeed_28 rfl rfl ?_
    refine q_callVV (As := []) (st := []) eX11_tellDeed_29 cv_11_240 (kX11_ends X l w14) tR_0 rfl (by decide) rfl rfl (Nat.le_of_ble_eq_true rfl) (by decide) (fun r15 w16 => ?_)
    exact q_return eX11_tellDeed_32 rfl
def fX11_tellParameter (w : q_W) : Option (Unit × q_W) :=
  q_lt (w.1 0 11) fun y1 =>
  q_b (fX11_must 1 w) fun r2 w3 =>
  if (w3.1 0 13) = 0 then
    q_b (fX11_reaches y1 w3) fun r4 w5 =>
    some ((), w5)
  else
    some ((), w3)
set_option maxHeartbeats 4000000 in
set_option maxRecDepth 100000 in
theorem kX11_tellParameter (X : q_X) (l : Launch) (w : q_W) : q_Ct X S_R l mX11_tellParameter 3 q_tV [.ref 0] w (fX11_tellParameter w) := by
  refine q_intro (lv := [(0, .ref 0)]) (by decide +kernel) rfl (Nat.le_of_ble_eq_true rfl) rfl ?_
  refine q_aload_n 0 eX11_tellParameter_0 rfl rfl ?_
  refine q_getI eX11_tellParameter_1 fl_11_176 tR_0 rfl ?_
  refine q_ltI (fun y1 => ?_)
  refine q_istore_n (lv' := [(1, .int y1), (0, .ref 0)]) eX11_tellParameter_4 rfl (by decide) rfl ?_
  refine q_aload_n 1 eX11_tellParameter_5 rfl rfl ?_
  refine q_iconst eX11_tellParameter_6 kiconst_1 ?_
  refine q_callVV (As := [.int 1]) (st := []) eX11_tellParameter_7 cv_11_225 (kX11_must X l 1 w) tR_0 rfl (by decide) rfl rfl (Nat.le_of_ble_eq_true rfl) (by decide) (fun r2 w3 => ?_)
  refine q_aload_n 1 eX11_tellParameter_10 rfl rfl ?_
  refine q_getI eX11_tellParameter_11 fl_11_173 tR_0 rfl ?_
  refine q_if_ne (tgt := 22) eX11_tellParameter_14 (by decide) (fun _ => ?_) (fun _ => ?_)
  · refine q_aload_n 1 eX11_tellParameter_17 rfl rfl ?_
    refine q_iload_n 0 eX11_tellParameter_18 rfl rfl ?_
    refine q_callVV (As := [.int y1]) (st := []) eX11_tellParameter_19 cv_11_237 (kX11_reaches X l y1 w3) tR_0 rfl (by decide) rfl rfl (Nat.le_of_ble_eq_true rfl) (by decide) (fun r4 w5 => ?_)
    exact q_return eX11_tellParameter_22 rfl
  · exact q_return eX11_tellParameter_22 rfl
def fX11_tellPattern_n220 (w : q_W) : Option (Unit × q_W) :=
  if (w.1 0 13) = 0 then
    q_lt (w.1 0 19) fun y1 =>
    if q_inb y1 2 then
    if q_inb y1 2 then
    q_lt (q_sI w 8 (q_ix y1) ((w.1 8 (q_ix y1)) + 1)) fun w2 =>
    some ((), w2)
    else none
    else none
  else
    some ((), w)
set_option maxHeartbeats 4000000 in
set_option maxRecDepth 100000 in
theorem jX11_tellPattern_n220 (X : q_X) (l : Launch) (w : q_W) : q_J X S_R l mX11_tellPattern 8 q_tV 220 [(0, .ref 0)] [] w (fX11_tellPattern_n220 w) := by
  refine q_aload_n 0 eX11_tellPattern_220 rfl rfl ?_
  refine q_getI eX11_tellPattern_221 fl_11_173 tR_0 rfl ?_
  refine q_if_ne (tgt := 240) eX11_tellPattern_224 (by decide) (fun _ => ?_) (fun _ => ?_)
  · refine q_aload_n 0 eX11_tellPattern_227 rfl rfl ?_
    refine q_getG (v := 8) eX11_tellPattern_228 fl_11_40 tR_0 rfl gR_0_20 ?_
    refine q_aload_n 0 eX11_tellPattern_231 rfl rfl ?_
    refine q_getI eX11_tellPattern_232 fl_11_209 tR_0 rfl ?_
    refine q_ltI (fun y1 => ?_)
    refine q_dup2 eX11_tellPattern_235 rfl rfl ?_
    refine q_iald eX11_tellPattern_236 tR_8 nR_8 ?_
    refine q_iconst eX11_tellPattern_237 kiconst_1 ?_
    refine q_iadd eX11_tellPattern_238 ?_
    refine q_iast eX11_tellPattern_239 tR_8 nR_8 ?_
    refine q_ltW (fun w2 => ?_)
    exact q_return eX11_tellPattern_240 rfl
  · exact q_return eX11_tellPattern_240 rfl
def fX11_tellPattern_h199 (rec199 : q_W → Option (Unit × q_W)) (w : q_W) : Option (Unit × q_W) :=
  if (w.1 0 13) = 0 then
    if (w.1 0 30) ≤ 0 then
      fX11_tellPattern_n220 w
    else
      q_b (fX11_tellDeed w) fun r1 w2 =>
      rec199 w2
  else
    fX11_tellPattern_n220 w
def fX11_tellPattern_l199 : q_W → Option (Unit × q_W) := q_it q_N (fX11_tellPattern_h199) (fun _ => none)
set_option maxHeartbeats 4000000 in
set_option maxRecDepth 100000 in
theorem jX11_tellPattern_h199 (X : q_X) (l : Launch) (rec199 : q_W → Option (Unit × q_W)) (hr199 : ∀ w, q_J X S_R l mX11_tellPattern 8 q_tV 199 [(0, .ref 0)] [] w (rec199 w)) : ∀ w, q_J X S_R l mX11_tellPattern 8 q_tV 199 [(0, .ref 0)] [] w (fX11_tellPattern_h199 rec199 w) := by
  intro w
  refine q_aload_n 0 eX11_tellPattern_199 rfl rfl ?_
  refine q_getI eX11_tellPattern_200 fl_11_173 tR_0 rfl ?_
  refine q_if_ne (tgt := 220) eX11_tellPattern_203 (by decide) (fun _ => ?_) (fun _ => ?_)
  · refine q_aload_n 0 eX11_tellPattern_206 rfl rfl ?_
    refine q_getI eX11_tellPattern_207 fl_11_231 tR_0 rfl ?_
    refine q_if_le (tgt := 220) eX11_tellPattern_210 (by decide) (fun _ => ?_) (fun _ => ?_)
    · exact q_sub [0] rfl (jX11_tellPattern_n220 X l w)
    · refine q_aload_n 0 eX11_tellPattern_213 rfl rfl ?_
      refine q_callVV (As := []) (st := []) eX11_tellPattern_214 cv_11_234 (kX11_tellDeed X l w) tR_0 rfl (by decide) rfl rfl (Nat.le_of_ble_eq_true rfl) (by decide) (fun r1 w2 => ?_)
      refine q_goto (tgt := 199) eX11_tellPattern_217 (by decide) ?_
      exact q_sub [0] rfl (hr199 w2)
  · exact q_sub [0] rfl (jX11_tellPattern_n220 X l w)
set_option maxHeartbeats 4000000 in
set_option maxRecDepth 100000 in
theorem jX11_tellPattern_l199 (X : q_X) (l : Launch) : ∀ w, q_J X S_R l mX11_tellPattern 8 q_tV 199 [(0, .ref 0)] [] w (fX11_tellPattern_l199 w) := by
  exact q_it_ind (fun rc => ∀ w, q_J X S_R l mX11_tellPattern 8 q_tV 199 [(0, .ref 0)] [] w (rc w)) _ _ (fun _ => q_none) (fun rc hrc => jX11_tellPattern_h199 X l rc hrc) q_N
def fX11_tellPattern_n177 (x2 : Int32) (w : q_W) : Option (Unit × q_W) :=
  if q_inb x2 16 then
  q_lt (q_sI w 10 (q_ix x2) (w.1 0 28)) fun w1 =>
  q_lt (q_sI w1 0 30 1) fun w2 =>
  if q_inb 0 8 then
  q_lt (q_sI w2 16 (q_ix 0) 0) fun w3 =>
  fX11_tellPattern_l199 w3
  else none
  else none
set_option maxHeartbeats 4000000 in
set_option maxRecDepth 100000 in
theorem jX11_tellPattern_n177 (X : q_X) (l : Launch) (x2 : Int32) (w : q_W) : q_J X S_R l mX11_tellPattern 8 q_tV 177 [(0, .ref 0), (2, .int x2)] [] w (fX11_tellPattern_n177 x2 w) := by
  refine q_aload_n 0 eX11_tellPattern_177 rfl rfl ?_
  refine q_getG (v := 10) eX11_tellPattern_178 fl_11_46 tR_0 rfl gR_0_22 ?_
  refine q_iload_n 1 eX11_tellPattern_181 rfl rfl ?_
  refine q_aload_n 0 eX11_tellPattern_182 rfl rfl ?_
  refine q_getI eX11_tellPattern_183 fl_11_218 tR_0 rfl ?_
  refine q_iast eX11_tellPattern_186 tR_10 nR_10 ?_
  refine q_ltW (fun w1 => ?_)
  refine q_aload_n 0 eX11_tellPattern_187 rfl rfl ?_
  refine q_iconst eX11_tellPattern_188 kiconst_1 ?_
  refine q_putI eX11_tellPattern_189 fp_11_231 tR_0 rfl ⟨rfl, rfl⟩ ?_
  refine q_ltW (fun w2 => ?_)
  refine q_aload_n 0 eX11_tellPattern_192 rfl rfl ?_
  refine q_getG (v := 16) eX11_tellPattern_193 fl_11_64 tR_0 rfl gR_0_31 ?_
  refine q_iconst eX11_tellPattern_196 kiconst_0 ?_
  refine q_iconst eX11_tellPattern_197 kiconst_0 ?_
  refine q_iast eX11_tellPattern_198 tR_16 nR_16 ?_
  refine q_ltW (fun w3 => ?_)
  exact q_sub [0] rfl (jX11_tellPattern_l199 X l w3)
def fX11_tellPattern_n171 (x2 : Int32) (w : q_W) : Option (Unit × q_W) :=
  q_b (fX11_must 7 w) fun r1 w2 =>
  fX11_tellPattern_n177 x2 w2
set_option maxHeartbeats 4000000 in
set_option maxRecDepth 100000 in
theorem jX11_tellPattern_n171 (X : q_X) (l : Launch) (x2 : Int32) (w : q_W) : q_J X S_R l mX11_tellPattern 8 q_tV 171 [(0, .ref 0), (2, .int x2)] [] w (fX11_tellPattern_n171 x2 w) := by
  refine q_aload_n 0 eX11_tellPattern_171 rfl rfl ?_
  refine q_bipush eX11_tellPattern_172 kbipush_7 ?_
  refine q_callVV (As := [.int 7]) (st := []) eX11_tellPattern_174 cv_11_225 (kX11_must X l 7 w) tR_0 rfl (by decide) rfl rfl (Nat.le_of_ble_eq_true rfl) (by decide) (fun r1 w2 => ?_)
  exact q_sub [0, 1] rfl (jX11_tellPattern_n177 X l x2 w2)
def fX11_tellPattern_n105 (rec78 : Int32 → Int32 → Int32 → q_W → Option (Unit × q_W)) (x1 : Int32) (x2 : Int32) (x3 : Int32) (w : q_W) : Option (Unit × q_W) :=
  q_lt (x3 + 1) fun y1 =>
  rec78 x1 x2 y1 w
set_option maxHeartbeats 4000000 in
set_option maxRecDepth 100000 in
theorem jX11_tellPattern_n105 (X : q_X) (l : Launch) (rec78 : Int32 → Int32 → Int32 → q_W → Option (Unit × q_W)) (hr78 : ∀ x1 x2 x3 w, q_J X S_R l mX11_tellPattern 8 q_tV 78 [(0, .ref 0), (1, .int x1), (2, .int x2), (3, .int x3)] [] w (rec78 x1 x2 x3 w)) (x1 : Int32) (x2 : Int32) (x3 : Int32) (w : q_W) : q_J X S_R l mX11_tellPattern 8 q_tV 105 [(0, .ref 0), (1, .int x1), (2, .int x2), (3, .int x3)] [] w (fX11_tellPattern_n105 rec78 x1 x2 x3 w) := by
  refine q_ltE (fun y1 hy1 => ?_)
  refine q_iinc (v := y1) (lv' := [(3, .int y1), (0, .ref 0), (1, .int x1), (2, .int x2)]) 3 eX11_tellPattern_105 rfl hy1 (by decide) rfl ?_
  refine q_goto (tgt := 78) eX11_tellPattern_108 (by decide) ?_
  exact q_sub [1, 2, 3, 0] rfl (hr78 x1 x2 y1 w)
def fX11_tellPattern_h78 (rec78 : Int32 → Int32 → Int32 → q_W → Option (Unit × q_W)) (x1 : Int32) (x2 : Int32) (x3 : Int32) (w : q_W) : Option (Unit × q_W) :=
  if x2 ≤ x3 then
    if q_inb x1 503 then
    if q_inb x2 16 then
    q_lt (q_sL w 9 (q_ix x2) (w.2.2 6 (q_ix x1))) fun w1 =>
    if q_inb x2 16 then
    q_lt (q_sI w1 11 (q_ix x2) (w1.1 0 24)) fun w2 =>
    q_lt (q_sI w2 0 28 0) fun w3 =>
    q_b (fX11_is 6 w3) fun r4 w5 =>
    if r4 = 0 then
      fX11_tellPattern_n177 x2 w5
    else
      q_b (fX11_next w5) fun r6 w7 =>
      q_b (fX11_tellParameter w7) fun r8 w9 =>
      q_b (fX11_is 5 w9) fun r10 w11 =>
      if r10 = 0 then
        fX11_tellPattern_n171 x2 w11
      else
        q_b (fX11_next w11) fun r12 w13 =>
        q_b (fX11_tellParameter w13) fun r14 w15 =>
        fX11_tellPattern_n171 x2 w15
    else none
    else none
    else none
  else
    if q_inb x3 16 then
    if q_inb x1 503 then
    if (lg_cmp (w.2.2 9 (q_ix x3)) (w.2.2 6 (q_ix x1))) = 0 then
      q_b (fX11_wrong 3 x1 w) fun r16 w17 =>
      fX11_tellPattern_n105 rec78 x1 x2 x3 w17
    else
      fX11_tellPattern_n105 rec78 x1 x2 x3 w
    else none
    else none
def fX11_tellPattern_l78 : Int32 → Int32 → Int32 → q_W → Option (Unit × q_W) := q_it q_N (fX11_tellPattern_h78) (fun _ _ _ _ => none)
set_option maxHeartbeats 4000000 in
set_option maxRecDepth 100000 in
theorem jX11_tellPattern_h78 (X : q_X) (l : Launch) (rec78 : Int32 → Int32 → Int32 → q_W → Option (Unit × q_W)) (hr78 : ∀ x1 x2 x3 w, q_J X S_R l mX11_tellPattern 8 q_tV 78 [(0, .ref 0), (1, .int x1), (2, .int x2), (3, .int x3)] [] w (rec78 x1 x2 x3 w)) : ∀ x1 x2 x3 w, q_J X S_R l mX11_tellPattern 8 q_tV 78 [(0, .ref 0), (1, .int x1), (2, .int x2), (3, .int x3)] [] w (fX11_tellPattern_h78 rec78 x1 x2 x3 w) := by
  intro x1 x2 x3 w
  refine q_iload_n 3 eX11_tellPattern_78 rfl rfl ?_
  refine q_iload_n 2 eX11_tellPattern_79 rfl rfl ?_
  refine q_icmp_ge (tgt := 111) eX11_tellPattern_80 (by decide) (fun _ => ?_) (fun _ => ?_)
  · refine q_aload_n 0 eX11_tellPattern_111 rfl rfl ?_
    refine q_getG (v := 9) eX11_tellPattern_112 fl_11_43 tR_0 rfl gR_0_21 ?_
    refine q_iload_n 2 eX11_tellPattern_115 rfl rfl ?_
    refine q_aload_n 0 eX11_tellPattern_116 rfl rfl ?_
    refine q_getG (v := 6) eX11_tellPattern_117 fl_11_30 tR_0 rfl gR_0_8 ?_
    refine q_iload_n 1 eX11_tellPattern_120 rfl rfl ?_
    refine q_lald eX11_tellPattern_121 tR_6 nR_6 ?_
    refine q_last eX11_tellPattern_122 tR_9 nR_9 ?_
    refine q_ltW (fun w1 => ?_)
    refine q_aload_n 0 eX11_tellPattern_123 rfl rfl ?_
    refine q_getG (v := 11) eX11_tellPattern_124 fl_11_49 tR_0 rfl gR_0_23 ?_
    refine q_iload_n 2 eX11_tellPattern_127 rfl rfl ?_
    refine q_aload_n 0 eX11_tellPattern_128 rfl rfl ?_
    refine q_getI eX11_tellPattern_129 fl_11_212 tR_0 rfl ?_
    refine q_iast eX11_tellPattern_132 tR_11 nR_11 ?_
    refine q_ltW (fun w2 => ?_)
    refine q_aload_n 0 eX11_tellPattern_133 rfl rfl ?_
    refine q_iconst eX11_tellPattern_134 kiconst_0 ?_
    refine q_putI eX11_tellPattern_135 fp_11_218 tR_0 rfl ⟨rfl, rfl⟩ ?_
    refine q_ltW (fun w3 => ?_)
    refine q_aload_n 0 eX11_tellPattern_138 rfl rfl ?_
    refine q_bipush eX11_tellPattern_139 kbipush_6 ?_
    refine q_callVI (As := [.int 6]) (st := []) eX11_tellPattern_141 cv_11_191 (kX11_is X l 6 w3) tR_0 rfl (by decide) rfl rfl (Nat.le_of_ble_eq_true rfl) (by decide) (fun r4 w5 => ?_)
    refine q_if_eq (tgt := 177) eX11_tellPattern_144 (by decide) (fun _ => ?_) (fun _ => ?_)
    · exact q_sub [0, 2] rfl (jX11_tellPattern_n177 X l x2 w5)
    · refine q_aload_n 0 eX11_tellPattern_147 rfl rfl ?_
      refine q_callVV (As := []) (st := []) eX11_tellPattern_148 cv_11_194 (kX11_next X l w5) tR_0 rfl (by decide) rfl rfl (Nat.le_of_ble_eq_true rfl) (by decide) (fun r6 w7 => ?_)
      refine q_aload_n 0 eX11_tellPattern_151 rfl rfl ?_
      refine q_callVV (As := []) (st := []) eX11_tellPattern_152 cv_11_228 (kX11_tellParameter X l w7) tR_0 rfl (by decide) rfl rfl (Nat.le_of_ble_eq_true rfl) (by decide) (fun r8 w9 => ?_)
      refine q_aload_n 0 eX11_tellPattern_155 rfl rfl ?_
      refine q_iconst eX11_tellPattern_156 kiconst_5 ?_
      refine q_callVI (As := [.int 5]) (st := []) eX11_tellPattern_157 cv_11_191 (kX11_is X l 5 w9) tR_0 rfl (by decide) rfl rfl (Nat.le_of_ble_eq_true rfl) (by decide) (fun r10 w11 => ?_)
      refine q_if_eq (tgt := 171) eX11_tellPattern_160 (by decide) (fun _ => ?_) (fun _ => ?_)
      · exact q_sub [0, 2] rfl (jX11_tellPattern_n171 X l x2 w11)
      · refine q_aload_n 0 eX11_tellPattern_163 rfl rfl ?_
        refine q_callVV (As := []) (st := []) eX11_tellPattern_164 cv_11_194 (kX11_next X l w11) tR_0 rfl (by decide) rfl rfl (Nat.le_of_ble_eq_true rfl) (by decide) (fun r12 w13 => ?_)
        refine q_aload_n 0 eX11_tellPattern_167 rfl rfl ?_
        refine q_callVV (As := []) (st := []) eX11_tellPattern_168 cv_11_228 (kX11_tellParameter X l w13) tR_0 rfl (by decide) rfl rfl (Nat.le_of_ble_eq_true rfl) (by decide) (fun r14 w15 => ?_)
        exact q_sub [0, 2] rfl (jX11_tellPattern_n171 X l x2 w15)
  · refine q_aload_n 0 eX11_tellPattern_83 rfl rfl ?_
    refine q_getG (v := 9) eX11_tellPattern_84 fl_11_43 tR_0 rfl gR_0_21 ?_
    refine q_iload_n 3 eX11_tellPattern_87 rfl rfl ?_
    refine q_lald eX11_tellPattern_88 tR_9 nR_9 ?_
    refine q_aload_n 0 eX11_tellPattern_89 rfl rfl ?_
    refine q_getG (v := 6) eX11_tellPattern_90 fl_11_30 tR_0 rfl gR_0_8 ?_
    refine q_iload_n 1 eX11_tellPattern_93 rfl rfl ?_
    refine q_lald eX11_tellPattern_94 tR_6 nR_6 ?_
    refine q_lcmp eX11_tellPattern_95 ?_
    refine q_if_ne (tgt := 105) eX11_tellPattern_96 (by decide) (fun _ => ?_) (fun _ => ?_)
    · refine q_aload_n 0 eX11_tellPattern_99 rfl rfl ?_
      refine q_iconst eX11_tellPattern_100 kiconst_3 ?_
      refine q_iload_n 1 eX11_tellPattern_101 rfl rfl ?_
      refine q_callVV (As := [.int 3, .int x1]) (st := []) eX11_tellPattern_102 cv_11_221 (kX11_wrong X l 3 x1 w) tR_0 rfl (by decide) rfl rfl (Nat.le_of_ble_eq_true rfl) (by decide) (fun r16 w17 => ?_)
      exact q_sub [0, 1, 2, 3] rfl (jX11_tellPattern_n105 X l rec78 hr78 x1 x2 x3 w17)
    · exact q_sub [0, 1, 2, 3] rfl (jX11_tellPattern_n105 X l rec78 hr78 x1 x2 x3 w)
set_option maxHeartbeats 4000000 in
set_option maxRecDepth 100000 in
theorem jX11_tellPattern_l78 (X : q_X) (l : Launch) : ∀ x1 x2 x3 w, q_J X S_R l mX11_tellPattern 8 q_tV 78 [(0, .ref 0), (1, .int x1), (2, .int x2), (3, .int x3)] [] w (fX11_tellPattern_l78 x1 x2 x3 w) := by
  exact q_it_ind (fun rc => ∀ x1 x2 x3 w, q_J X S_R l mX11_tellPattern 8 q_tV 78 [(0, .ref 0), (1, .int x1), (2, .int x2), (3, .int x3)] [] w (rc x1 x2 x3 w)) _ _ (fun _ _ _ _ => q_none) (fun rc hrc => jX11_tellPattern_h78 X l rc hrc) q_N
def fX11_tellPattern_n28 (w : q_W) : Option (Unit × q_W) :=
  q_b (fX11_must 20 w) fun r1 w2 =>
  q_lt (w2.1 0 11) fun y3 =>
  q_b (fX11_must 1 w2) fun r4 w5 =>
  if (w5.1 0 13) ≤ 0 then
    q_lt (w5.1 0 19) fun y6 =>
    if q_inb y6 2 then
    q_lt ((8 * (w5.1 0 19)) + (w5.1 8 (q_ix y6))) fun y7 =>
    q_lt (8 * (w5.1 0 19)) fun y8 =>
    fX11_tellPattern_l78 y3 y7 y8 w5
    else none
  else
    some ((), w5)
set_option maxHeartbeats 4000000 in
set_option maxRecDepth 100000 in
theorem jX11_tellPattern_n28 (X : q_X) (l : Launch) (w : q_W) : q_J X S_R l mX11_tellPattern 8 q_tV 28 [(0, .ref 0)] [] w (fX11_tellPattern_n28 w) := by
  refine q_aload_n 0 eX11_tellPattern_28 rfl rfl ?_
  refine q_bipush eX11_tellPattern_29 kbipush_20 ?_
  refine q_callVV (As := [.int 20]) (st := []) eX11_tellPattern_31 cv_11_225 (kX11_must X l 20 w) tR_0 rfl (by decide) rfl rfl (Nat.le_of_ble_eq_true rfl) (by decide) (fun r1 w2 => ?_)
  refine q_aload_n 0 eX11_tellPattern_34 rfl rfl ?_
  refine q_getI eX11_tellPattern_35 fl_11_176 tR_0 rfl ?_
  refine q_ltI (fun y3 => ?_)
  refine q_istore_n (lv' := [(1, .int y3), (0, .ref 0)]) eX11_tellPattern_38 rfl (by decide) rfl ?_
  refine q_aload_n 1 eX11_tellPattern_39 rfl rfl ?_
  refine q_iconst eX11_tellPattern_40 kiconst_1 ?_
  refine q_callVV (As := [.int 1]) (st := []) eX11_tellPattern_41 cv_11_225 (kX11_must X l 1 w2) tR_0 rfl (by decide) rfl rfl (Nat.le_of_ble_eq_true rfl) (by decide) (fun r4 w5 => ?_)
  refine q_aload_n 1 eX11_tellPattern_44 rfl rfl ?_
  refine q_getI eX11_tellPattern_45 fl_11_173 tR_0 rfl ?_
  refine q_if_le (tgt := 52) eX11_tellPattern_48 (by decide) (fun _ => ?_) (fun _ => ?_)
  · refine q_bipush eX11_tellPattern_52 kbipush_8 ?_
    refine q_aload_n 1 eX11_tellPattern_54 rfl rfl ?_
    refine q_getI eX11_tellPattern_55 fl_11_209 tR_0 rfl ?_
    refine q_imul eX11_tellPattern_58 ?_
    refine q_aload_n 1 eX11_tellPattern_59 rfl rfl ?_
    refine q_getG (v := 8) eX11_tellPattern_60 fl_11_40 tR_0 rfl gR_0_20 ?_
    refine q_aload_n 1 eX11_tellPattern_63 rfl rfl ?_
    refine q_getI eX11_tellPattern_64 fl_11_209 tR_0 rfl ?_
    refine q_ltI (fun y6 => ?_)
    refine q_iald eX11_tellPattern_67 tR_8 nR_8 ?_
    refine q_iadd eX11_tellPattern_68 ?_
    refine q_ltI (fun y7 => ?_)
    refine q_istore_n (lv' := [(2, .int y7), (1, .int y3), (0, .ref 0)]) eX11_tellPattern_69 rfl (by decide) rfl ?_
    refine q_bipush eX11_tellPattern_70 kbipush_8 ?_
    refine q_aload_n 2 eX11_tellPattern_72 rfl rfl ?_
    refine q_getI eX11_tellPattern_73 fl_11_209 tR_0 rfl ?_
    refine q_imul eX11_tellPattern_76 ?_
    refine q_ltI (fun y8 => ?_)
    refine q_istore_n (lv' := [(3, .int y8), (2, .int y7), (1, .int y3), (0, .ref 0)]) eX11_tellPattern_77 rfl (by decide) rfl ?_
    exact q_sub [3, 2, 1, 0] rfl (jX11_tellPattern_l78 X l y3 y7 y8 w5)
  · exact q_return eX11_tellPattern_51 rfl
def fX11_tellPattern (w : q_W) : Option (Unit × q_W) :=
  q_b (fX11_is 20 w) fun r1 w2 =>
  if r1 = 0 then
    fX11_tellPattern_n28 w2
  else
    q_lt (w2.1 0 19) fun y3 =>
    if q_inb y3 2 then
    if (w2.1 8 (q_ix y3)) = 8 then
      q_b (fX11_fail 2 w2) fun r4 w5 =>
      fX11_tellPattern_n28 w5
    else
      fX11_tellPattern_n28 w2
    else none
set_option maxHeartbeats 4000000 in
set_option maxRecDepth 100000 in
theorem kX11_tellPattern (X : q_X) (l : Launch) (w : q_W) : q_Ct X S_R l mX11_tellPattern 8 q_tV [.ref 0] w (fX11_tellPattern w) := by
  refine q_intro (lv := [(0, .ref 0)]) (by decide +kernel) rfl (Nat.le_of_ble_eq_true rfl) rfl ?_
  refine q_aload_n 0 eX11_tellPattern_0 rfl rfl ?_
  refine q_bipush eX11_tellPattern_1 kbipush_20 ?_
  refine q_callVI (As := [.int 20]) (st := []) eX11_tellPattern_3 cv_11_191 (kX11_is X l 20 w) tR_0 rfl (by decide) rfl rfl (Nat.le_of_ble_eq_true rfl) (by decide) (fun r1 w2 => ?_)
  refine q_if_eq (tgt := 28) eX11_tellPattern_6 (by decide) (fun _ => ?_) (fun _ => ?_)
  · exact q_sub [0] rfl (jX11_tellPattern_n28 X l w2)
  · refine q_aload_n 0 eX11_tellPattern_9 rfl rfl ?_
    refine q_getG (v := 8) eX11_tellPattern_10 fl_11_40 tR_0 rfl gR_0_20 ?_
    refine q_aload_n 0 eX11_tellPattern_13 rfl rfl ?_
    refine q_getI eX11_tellPattern_14 fl_11_209 tR_0 rfl ?_
    refine q_ltI (fun y3 => ?_)
    refine q_iald eX11_tellPattern_17 tR_8 nR_8 ?_
    refine q_bipush eX11_tellPattern_18 kbipush_8 ?_
    refine q_icmp_ne (tgt := 28) eX11_tellPattern_20 (by decide) (fun _ => ?_) (fun _ => ?_)
    · refine q_aload_n 0 eX11_tellPattern_23 rfl rfl ?_
      refine q_iconst eX11_tellPattern_24 kiconst_2 ?_
      refine q_callVV (As := [.int 2]) (st := []) eX11_tellPattern_25 cv_11_188 (kX11_fail X l 2 w2) tR_0 rfl (by decide) rfl rfl (Nat.le_of_ble_eq_true rfl) (by decide) (fun r4 w5 => ?_)
      exact q_sub [0] rfl (jX11_tellPattern_n28 X l w5)
    · exact q_sub [0] rfl (jX11_tellPattern_n28 X l w2)
def fX11_read_n154 (s0 : Int32) (w : q_W) : Option (Int32 × q_W) :=
  q_lt (q_sI w 0 17 s0) fun w1 =>
  if (w1.1 0 13) ≤ 0 then
    if (w1.1 0 15) ≤ 0 then
      q_lt (q_sI w1 0 18 (w1.1 0 19)) fun w2 =>
      some (0, w2)
    else
      some ((w1.1 0 15), w1)
  else
    some ((w1.1 0 13), w1)
set_option maxHeartbeats 4000000 in
set_option maxRecDepth 100000 in
theorem jX11_read_n154 (X : q_X) (l : Launch) (s0 : Int32) (w : q_W) : q_J X S_R l mX11_read 9 q_tI 154 [(0, .ref 0)] [.int s0, .ref 0] w (fX11_read_n154 s0 w) := by
  refine q_putI eX11_read_154 fp_11_37 tR_0 rfl ⟨rfl, rfl⟩ ?_
  refine q_ltW (fun w1 => ?_)
  refine q_aload_n 0 eX11_read_157 rfl rfl ?_
  refine q_getI eX11_read_158 fl_11_173 tR_0 rfl ?_
  refine q_if_le (tgt := 169) eX11_read_161 (by decide) (fun _ => ?_) (fun _ => ?_)
  · refine q_aload_n 0 eX11_read_169 rfl rfl ?_
    refine q_getI eX11_read_170 fl_11_182 tR_0 rfl ?_
    refine q_if_le (tgt := 181) eX11_read_173 (by decide) (fun _ => ?_) (fun _ => ?_)
    · refine q_aload_n 0 eX11_read_181 rfl rfl ?_
      refine q_aload_n 0 eX11_read_182 rfl rfl ?_
      refine q_getI eX11_read_183 fl_11_209 tR_0 rfl ?_
      refine q_putI eX11_read_186 fp_11_206 tR_0 rfl ⟨rfl, rfl⟩ ?_
      refine q_ltW (fun w2 => ?_)
      refine q_iconst eX11_read_189 kiconst_0 ?_
      exact q_ireturn eX11_read_190 rfl
    · refine q_aload_n 0 eX11_read_176 rfl rfl ?_
      refine q_getI eX11_read_177 fl_11_182 tR_0 rfl ?_
      exact q_ireturn eX11_read_180 rfl
  · refine q_aload_n 0 eX11_read_164 rfl rfl ?_
    refine q_getI eX11_read_165 fl_11_173 tR_0 rfl ?_
    exact q_ireturn eX11_read_168 rfl
def fX11_read_n124 (w : q_W) : Option (Int32 × q_W) :=
  if (w.1 0 13) ≤ 0 then
    if (w.1 0 15) ≤ 0 then
      fX11_read_n154 (-1) w
    else
      fX11_read_n154 (w.1 0 16) w
  else
    fX11_read_n154 (w.1 0 14) w
set_option maxHeartbeats 4000000 in
set_option maxRecDepth 100000 in
theorem jX11_read_n124 (X : q_X) (l : Launch) (w : q_W) : q_J X S_R l mX11_read 9 q_tI 124 [(0, .ref 0)] [] w (fX11_read_n124 w) := by
  refine q_aload_n 0 eX11_read_124 rfl rfl ?_
  refine q_aload_n 0 eX11_read_125 rfl rfl ?_
  refine q_getI eX11_read_126 fl_11_173 tR_0 rfl ?_
  refine q_if_le (tgt := 139) eX11_read_129 (by decide) (fun _ => ?_) (fun _ => ?_)
  · refine q_aload_n 0 eX11_read_139 rfl rfl ?_
    refine q_getI eX11_read_140 fl_11_182 tR_0 rfl ?_
    refine q_if_le (tgt := 153) eX11_read_143 (by decide) (fun _ => ?_) (fun _ => ?_)
    · refine q_iconst eX11_read_153 kiconst_m1 ?_
      exact q_sub [0] rfl (jX11_read_n154 X l (-1) w)
    · refine q_aload_n 0 eX11_read_146 rfl rfl ?_
      refine q_getI eX11_read_147 fl_11_185 tR_0 rfl ?_
      refine q_goto (tgt := 154) eX11_read_150 (by decide) ?_
      exact q_sub [0] rfl (jX11_read_n154 X l (w.1 0 16) w)
  · refine q_aload_n 0 eX11_read_132 rfl rfl ?_
    refine q_getI eX11_read_133 fl_11_179 tR_0 rfl ?_
    refine q_goto (tgt := 154) eX11_read_136 (by decide) ?_
    exact q_sub [0] rfl (jX11_read_n154 X l (w.1 0 14) w)
def fX11_read_h102 (rec102 : q_W → Option (Int32 × q_W)) (w : q_W) : Option (Int32 × q_W) :=
  if (w.1 0 13) = 0 then
    q_b (fX11_is 0 w) fun r1 w2 =>
    if r1 = 0 then
      q_b (fX11_tellPattern w2) fun r3 w4 =>
      rec102 w4
    else
      fX11_read_n124 w2
  else
    fX11_read_n124 w
def fX11_read_l102 : q_W → Option (Int32 × q_W) := q_it q_N (fX11_read_h102) (fun _ => none)
set_option maxHeartbeats 4000000 in
set_option maxRecDepth 100000 in
theorem jX11_read_h102 (X : q_X) (l : Launch) (rec102 : q_W → Option (Int32 × q_W)) (hr102 : ∀ w, q_J X S_R l mX11_read 9 q_tI 102 [(0, .ref 0)] [] w (rec102 w)) : ∀ w, q_J X S_R l mX11_read 9 q_tI 102 [(0, .ref 0)] [] w (fX11_read_h102 rec102 w) := by
  intro w
  refine q_aload_n 0 eX11_read_102 rfl rfl ?_
  refine q_getI eX11_read_103 fl_11_173 tR_0 rfl ?_
  refine q_if_ne (tgt := 124) eX11_read_106 (by decide) (fun _ => ?_) (fun _ => ?_)
  · refine q_aload_n 0 eX11_read_109 rfl rfl ?_
    refine q_iconst eX11_read_110 kiconst_0 ?_
    refine q_callVI (As := [.int 0]) (st := []) eX11_read_111 cv_11_191 (kX11_is X l 0 w) tR_0 rfl (by decide) rfl rfl (Nat.le_of_ble_eq_true rfl) (by decide) (fun r1 w2 => ?_)
    refine q_if_ne (tgt := 124) eX11_read_114 (by decide) (fun _ => ?_) (fun _ => ?_)
    · refine q_aload_n 0 eX11_read_117 rfl rfl ?_
      refine q_callVV (As := []) (st := []) eX11_read_118 cv_11_215 (kX11_tellPattern X l w2) tR_0 rfl (by decide) rfl rfl (Nat.le_of_ble_eq_true rfl) (by decide) (fun r3 w4 => ?_)
      refine q_goto (tgt := 102) eX11_read_121 (by decide) ?_
      exact q_sub [0] rfl (hr102 w4)
    · exact q_sub [0] rfl (jX11_read_n124 X l w2)
  · exact q_sub [0] rfl (jX11_read_n124 X l w)
set_option maxHeartbeats 4000000 in
set_option maxRecDepth 100000 in
theorem jX11_read_l102 (X : q_X) (l : Launch) : ∀ w, q_J X S_R l mX11_read 9 q_tI 102 [(0, .ref 0)] [] w (fX11_read_l102 w) := by
  exact q_it_ind (fun rc => ∀ w, q_J X S_R l mX11_read 9 q_tI 102 [(0, .ref 0)] [] w (rc w)) _ _ (fun _ => q_none) (fun rc hrc => jX11_read_h102 X l rc hrc) q_N
def fX11_read_h10 (rec10 : Int32 → q_W → Option (Int32 × q_W)) (x1 : Int32) (w : q_W) : Option (Int32 × q_W) :=
  if (w.1 0 4) ≤ x1 then
    q_lt (q_sI w 0 2 0) fun w1 =>
    q_b (fX11_cut w1) fun r2 w3 =>
    q_lt (q_sI w3 0 11 0) fun w4 =>
    q_lt (q_sI w4 0 12 0) fun w5 =>
    q_lt (q_sI w5 0 38 0) fun w6 =>
    q_lt (q_sI w6 0 13 0) fun w7 =>
    q_lt (q_sI w7 0 15 0) fun w8 =>
    q_lt (q_sI w8 0 19 (1 - (w8.1 0 18))) fun w9 =>
    q_lt (w9.1 0 19) fun y10 =>
    if q_inb y10 2 then
    q_lt (q_sI w9 8 (q_ix y10) 0) fun w11 =>
    q_lt (q_sI w11 0 24 (2000 * (w11.1 0 19))) fun w12 =>
    fX11_read_l102 w12
    else none
  else
    if q_inb x1 2000 then
    if q_inb x1 2000 then
    q_lt (q_sI w 2 (q_ix x1) (vp_nar .byte (w.1 1 (q_ix x1)))) fun w13 =>
    q_lt (x1 + 1) fun y14 =>
    rec10 y14 w13
    else none
    else none
def fX11_read_l10 : Int32 → q_W → Option (Int32 × q_W) := q_it q_N (fX11_read_h10) (fun _ _ => none)
set_option maxHeartbeats 4000000 in
set_option maxRecDepth 100000 in
theorem jX11_read_h10 (X : q_X) (l : Launch) (rec10 : Int32 → q_W → Option (Int32 × q_W)) (hr10 : ∀ x1 w, q_J X S_R l mX11_read 9 q_tI 10 [(0, .ref 0), (1, .int x1)] [] w (rec10 x1 w)) : ∀ x1 w, q_J X S_R l mX11_read 9 q_tI 10 [(0, .ref 0), (1, .int x1)] [] w (fX11_read_h10 rec10 x1 w) := by
  intro x1 w
  refine q_iload_n 1 eX11_read_10 rfl rfl ?_
  refine q_aload_n 0 eX11_read_11 rfl rfl ?_
  refine q_getI eX11_read_12 fl_11_142 tR_0 rfl ?_
  refine q_icmp_ge (tgt := 36) eX11_read_15 (by decide) (fun _ => ?_) (fun _ => ?_)
  · refine q_aload_n 0 eX11_read_36 rfl rfl ?_
    refine q_iconst eX11_read_37 kiconst_0 ?_
    refine q_putI eX11_read_38 fp_11_135 tR_0 rfl ⟨rfl, rfl⟩ ?_
    refine q_ltW (fun w1 => ?_)
    refine q_aload_n 0 eX11_read_41 rfl rfl ?_
    refine q_callVV (As := []) (st := []) eX11_read_42 cv_11_197 (kX11_cut X l w1) tR_0 rfl (by decide) rfl rfl (Nat.le_of_ble_eq_true rfl) (by decide) (fun r2 w3 => ?_)
    refine q_aload_n 0 eX11_read_45 rfl rfl ?_
    refine q_iconst eX11_read_46 kiconst_0 ?_
    refine q_putI eX11_read_47 fp_11_176 tR_0 rfl ⟨rfl, rfl⟩ ?_
    refine q_ltW (fun w4 => ?_)
    refine q_aload_n 0 eX11_read_50 rfl rfl ?_
    refine q_iconst eX11_read_51 kiconst_0 ?_
    refine q_putI eX11_read_52 fp_11_200 tR_0 rfl ⟨rfl, rfl⟩ ?_
    refine q_ltW (fun w5 => ?_)
    refine q_aload_n 0 eX11_read_55 rfl rfl ?_
    refine q_iconst eX11_read_56 kiconst_0 ?_
    refine q_putI eX11_read_57 fp_11_203 tR_0 rfl ⟨rfl, rfl⟩ ?_
    refine q_ltW (fun w6 => ?_)
    refine q_aload_n 0 eX11_read_60 rfl rfl ?_
    refine q_iconst eX11_read_61 kiconst_0 ?_
    refine q_putI eX11_read_62 fp_11_173 tR_0 rfl ⟨rfl, rfl⟩ ?_
    refine q_ltW (fun w7 => ?_)
    refine q_aload_n 0 eX11_read_65 rfl rfl ?_
    refine q_iconst eX11_read_66 kiconst_0 ?_
    refine q_putI eX11_read_67 fp_11_182 tR_0 rfl ⟨rfl, rfl⟩ ?_
    refine q_ltW (fun w8 => ?_)
    refine q_aload_n 0 eX11_read_70 rfl rfl ?_
    refine q_iconst eX11_read_71 kiconst_1 ?_
    refine q_aload_n 0 eX11_read_72 rfl rfl ?_
    refine q_getI eX11_read_73 fl_11_206 tR_0 rfl ?_
    refine q_isub eX11_read_76 ?_
    refine q_putI eX11_read_77 fp_11_209 tR_0 rfl ⟨rfl, rfl⟩ ?_
    refine q_ltW (fun w9 => ?_)
    refine q_aload_n 0 eX11_read_80 rfl rfl ?_
    refine q_getG (v := 8) eX11_read_81 fl_11_40 tR_0 rfl gR_0_20 ?_
    refine q_aload_n 0 eX11_read_84 rfl rfl ?_
    refine q_getI eX11_read_85 fl_11_209 tR_0 rfl ?_
    refine q_iconst eX11_read_88 kiconst_0 ?_
    refine q_ltI1 (fun y10 => ?_)
    refine q_iast eX11_read_89 tR_8 nR_8 ?_
    refine q_ltW (fun w11 => ?_)
    refine q_aload_n 0 eX11_read_90 rfl rfl ?_
    refine q_sipush eX11_read_91 ksipush_2000 ?_
    refine q_aload_n 0 eX11_read_94 rfl rfl ?_
    refine q_getI eX11_read_95 fl_11_209 tR_0 rfl ?_
    refine q_imul eX11_read_98 ?_
    refine q_putI eX11_read_99 fp_11_212 tR_0 rfl ⟨rfl, rfl⟩ ?_
    refine q_ltW (fun w12 => ?_)
    exact q_sub [0] rfl (jX11_read_l102 X l w12)
  · refine q_aload_n 0 eX11_read_18 rfl rfl ?_
    refine q_getG (v := 2) eX11_read_19 fl_11_17 tR_0 rfl gR_0_3 ?_
    refine q_iload_n 1 eX11_read_22 rfl rfl ?_
    refine q_aload_n 0 eX11_read_23 rfl rfl ?_
    refine q_getG (v := 1) eX11_read_24 fl_11_13 tR_0 rfl gR_0_1 ?_
    refine q_iload_n 1 eX11_read_27 rfl rfl ?_
    refine q_bald eX11_read_28 tR_1 nR_1 ?_
    refine q_bast eX11_read_29 tR_2 nR_2 ?_
    refine q_ltW (fun w13 => ?_)
    refine q_ltE (fun y14 hy14 => ?_)
    refine q_iinc (v := y14) (lv' := [(1, .int y14), (0, .ref 0)]) 1 eX11_read_30 rfl hy14 (by decide) rfl ?_
    refine q_goto (tgt := 10) eX11_read_33 (by decide) ?_
    exact q_sub [1, 0] rfl (hr10 y14 w13)
set_option maxHeartbeats 4000000 in
set_option maxRecDepth 100000 in
theorem jX11_read_l10 (X : q_X) (l : Launch) : ∀ x1 w, q_J X S_R l mX11_read 9 q_tI 10 [(0, .ref 0), (1, .int x1)] [] w (fX11_read_l10 x1 w) := by
  exact q_it_ind (fun rc => ∀ x1 w, q_J X S_R l mX11_read 9 q_tI 10 [(0, .ref 0), (1, .int x1)] [] w (rc x1 w)) _ _ (fun _ _ => q_none) (fun rc hrc => jX11_read_h10 X l rc hrc) q_N
def fX11_read (w : q_W) : Option (Int32 × q_W) :=
  q_lt (q_sI w 0 4 (w.1 0 2)) fun w1 =>
  fX11_read_l10 0 w1
set_option maxHeartbeats 4000000 in
set_option maxRecDepth 100000 in
theorem kX11_read (X : q_X) (l : Launch) (w : q_W) : q_Ct X S_R l mX11_read 9 q_tI [.ref 0] w (fX11_read w) := by
  refine q_intro (lv := [(0, .ref 0)]) (by decide +kernel) rfl (Nat.le_of_ble_eq_true rfl) rfl ?_
  refine q_aload_n 0 eX11_read_0 rfl rfl ?_
  refine q_aload_n 0 eX11_read_1 rfl rfl ?_
  refine q_getI eX11_read_2 fl_11_135 tR_0 rfl ?_
  refine q_putI eX11_read_5 fp_11_142 tR_0 rfl ⟨rfl, rfl⟩ ?_
  refine q_ltW (fun w1 => ?_)
  refine q_iconst eX11_read_8 kiconst_0 ?_
  refine q_istore_n (lv' := [(1, .int 0), (0, .ref 0)]) eX11_read_9 rfl (by decide) rfl ?_
  exact q_sub [1, 0] rfl (jX11_read_l10 X l 0 w1)
def fX11_place (w : q_W) : Option (Int32 × q_W) :=
  some ((w.1 0 17), w)
set_option maxHeartbeats 4000000 in
set_option maxRecDepth 100000 in
theorem kX11_place (X : q_X) (l : Launch) (w : q_W) : q_Ct X S_R l mX11_place 0 q_tI [.ref 0] w (fX11_place w) := by
  refine q_intro (lv := [(0, .ref 0)]) (by decide +kernel) rfl (Nat.le_of_ble_eq_true rfl) rfl ?_
  refine q_aload_n 0 eX11_place_0 rfl rfl ?_
  refine q_getI eX11_place_1 fl_11_37 tR_0 rfl ?_
  exact q_ireturn eX11_place_4 rfl
def fX11_begins (a1 : Int32) (w : q_W) : Option (Unit × q_W) :=
  q_lt (q_sI w 0 39 0) fun w1 =>
  q_lt (q_sI w1 0 40 0) fun w2 =>
  q_lt (q_sI w2 0 41 a1) fun w3 =>
  some ((), w3)
set_option maxHeartbeats 4000000 in
set_option maxRecDepth 100000 in
theorem kX11_begins (X : q_X) (l : Launch) (a1 : Int32) (w : q_W) : q_Ct X S_R l mX11_begins 0 q_tV [.ref 0, .int a1] w (fX11_begins a1 w) := by
  refine q_intro (lv := [(0, .ref 0), (1, .int a1)]) (by decide +kernel) rfl (Nat.le_of_ble_eq_true rfl) rfl ?_
  refine q_aload_n 0 eX11_begins_0 rfl rfl ?_
  refine q_iconst eX11_begins_1 kiconst_0 ?_
  refine q_putI eX11_begins_2 fp_11_290 tR_0 rfl ⟨rfl, rfl⟩ ?_
  refine q_ltW (fun w1 => ?_)
  refine q_aload_n 0 eX11_begins_5 rfl rfl ?_
  refine q_iconst eX11_begins_6 kiconst_0 ?_
  refine q_putI eX11_begins_7 fp_11_293 tR_0 rfl ⟨rfl, rfl⟩ ?_
  refine q_ltW (fun w2 => ?_)
  refine q_aload_n 0 eX11_begins_10 rfl rfl ?_
  refine q_iload_n 1 eX11_begins_11 rfl rfl ?_
  refine q_putI eX11_begins_12 fp_11_296 tR_0 rfl ⟨rfl, rfl⟩ ?_
  refine q_ltW (fun w3 => ?_)
  exact q_return eX11_begins_15 rfl
