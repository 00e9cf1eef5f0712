/-! methods, printed by program: X11_forth X11_origin X11_colourOf X11_colour X11_from X11_goes X11_to X11_home X11_lays X11_isSheet X11_sheets X11_cell X11_area X11_meets -/
def fX11_forth_n194 (w : q_W) : Option (Int32 × q_W) :=
  q_b (fX11_isPoint (w.1 0 61) (w.1 0 62) w) fun r1 w2 =>
  if r1 = 0 ∨ r1 = 1 then some (r1, w2) else none
set_option maxHeartbeats 4000000 in
set_option maxRecDepth 100000 in
theorem jX11_forth_n194 (X : q_X) (l : Launch) (w : q_W) : q_J X S_R l mX11_forth 2 q_tI 194 [(0, .ref 0)] [] w (fX11_forth_n194 w) := by
  refine q_aload_n 0 eX11_forth_194 rfl rfl ?_
  refine q_getI eX11_forth_195 fl_11_364 tR_0 rfl ?_
  refine q_aload_n 0 eX11_forth_198 rfl rfl ?_
  refine q_getI eX11_forth_199 fl_11_367 tR_0 rfl ?_
  refine q_callSI (As := [.int (w.1 0 61), .int (w.1 0 62)]) (st := []) eX11_forth_202 cv_11_379 (kX11_isPoint X l (w.1 0 61) (w.1 0 62) w) rfl rfl (Nat.le_of_ble_eq_true rfl) (by decide) (fun r1 w2 => ?_)
  exact q_ck (fun h => q_zret eX11_forth_205 rfl (q_nb h).1)
def fX11_forth_n140 (w : q_W) : Option (Int32 × q_W) :=
  fX11_forth_n194 w
set_option maxHeartbeats 4000000 in
set_option maxRecDepth 100000 in
theorem jX11_forth_n140 (X : q_X) (l : Launch) (w : q_W) : q_J X S_R l mX11_forth 2 q_tI 140 [(0, .ref 0)] [] w (fX11_forth_n140 w) := by
  refine q_goto (tgt := 194) eX11_forth_140 (by decide) ?_
  exact q_sub [0] rfl (jX11_forth_n194 X l w)
def fX11_forth (a1 : Int32) (w : q_W) : Option (Int32 × q_W) :=
  if q_inb a1 120 then
  if (w.1 29 (q_ix a1)) = 0 then
    q_lt (6 * a1) fun y1 =>
    if q_inb y1 720 then
    q_lt ((w.1 0 61) - (w.1 30 (q_ix y1))) fun y2 =>
    q_lt ((6 * a1) + 1) fun y3 =>
    if q_inb y3 720 then
    q_lt ((w.1 0 62) - (w.1 30 (q_ix y3))) fun y4 =>
    q_lt ((y2 * y2) + (y4 * y4)) fun y5 =>
    q_b (fX11_radius a1 w) fun r6 w7 =>
    if y5 = 0 then
      q_lt (q_sI w7 0 61 ((w7.1 0 61) + r6)) fun w8 =>
      fX11_forth_n140 w8
    else
      q_b (fX11_root y5 w7) fun r9 w10 =>
      q_b (fX11_root (y5 + (r6 * r6)) w10) fun r11 w12 =>
      q_lt (6 * a1) fun y13 =>
      if q_inb y13 720 then
      if r9 = 0 then none else
      q_lt (q_sI w12 0 61 ((w12.1 30 (q_ix y13)) + ((y2 * r11) / r9))) fun w14 =>
      q_lt ((6 * a1) + 1) fun y15 =>
      if q_inb y15 720 then
      if r9 = 0 then none else
      q_lt (q_sI w14 0 62 ((w14.1 30 (q_ix y15)) + ((y4 * r11) / r9))) fun w16 =>
      fX11_forth_n140 w16
      else none
      else none
    else none
    else none
  else
    q_lt (6 * a1) fun y17 =>
    if q_inb y17 720 then
    if (w.1 30 (q_ix y17)) = 0 then
      q_b (fX11_drags a1 (w.1 0 62) w) fun r18 w19 =>
      q_lt (q_sI w19 0 61 ((w.1 0 61) + r18)) fun w20 =>
      fX11_forth_n194 w20
    else
      q_b (fX11_drags a1 (w.1 0 61) w) fun r21 w22 =>
      q_lt (q_sI w22 0 62 ((w.1 0 62) + r21)) fun w23 =>
      fX11_forth_n194 w23
    else none
  else none
set_option maxHeartbeats 4000000 in
set_option maxRecDepth 100000 in
theorem kX11_forth (X : q_X) (l : Launch) (a1 : Int32) (w : q_W) : q_Ct X S_R l mX11_forth 2 q_tI [.ref 0, .int a1] w (fX11_forth a1 w) := by
  refine q_intro (lv := [(0, .ref 0), (1, .int a1)]) (by decide +kernel) rfl (Nat.le_of_ble_eq_true rfl) rfl ?_
  refine q_aload_n 0 eX11_forth_0 rfl rfl ?_
  refine q_getG (v := 29) eX11_forth_1 fl_11_106 tR_0 rfl gR_0_57 ?_
  refine q_iload_n 1 eX11_forth_4 rfl rfl ?_
  refine q_iald eX11_forth_5 tR_29 nR_29 ?_
  refine q_if_ne (tgt := 143) eX11_forth_6 (by decide) (fun _ => ?_) (fun _ => ?_)
  · refine q_aload_n 0 eX11_forth_9 rfl rfl ?_
    refine q_getI eX11_forth_10 fl_11_364 tR_0 rfl ?_
    refine q_aload_n 0 eX11_forth_13 rfl rfl ?_
    refine q_getG (v := 30) eX11_forth_14 fl_11_109 tR_0 rfl gR_0_58 ?_
    refine q_bipush eX11_forth_17 kbipush_6 ?_
    refine q_iload_n 1 eX11_forth_19 rfl rfl ?_
    refine q_imul eX11_forth_20 ?_
    refine q_ltI (fun y1 => ?_)
    refine q_iald eX11_forth_21 tR_30 nR_30 ?_
    refine q_isub eX11_forth_22 ?_
    refine q_ltI (fun y2 => ?_)
    refine q_istore_n (lv' := [(2, .int y2), (0, .ref 0), (1, .int a1)]) eX11_forth_23 rfl (by decide) rfl ?_
    refine q_aload_n 1 eX11_forth_24 rfl rfl ?_
    refine q_getI eX11_forth_25 fl_11_367 tR_0 rfl ?_
    refine q_aload_n 1 eX11_forth_28 rfl rfl ?_
    refine q_getG (v := 30) eX11_forth_29 fl_11_109 tR_0 rfl gR_0_58 ?_
    refine q_bipush eX11_forth_32 kbipush_6 ?_
    refine q_iload_n 2 eX11_forth_34 rfl rfl ?_
    refine q_imul eX11_forth_35 ?_
    refine q_iconst eX11_forth_36 kiconst_1 ?_
    refine q_iadd eX11_forth_37 ?_
    refine q_ltI (fun y3 => ?_)
    refine q_iald eX11_forth_38 tR_30 nR_30 ?_
    refine q_isub eX11_forth_39 ?_
    refine q_ltI (fun y4 => ?_)
    refine q_istore_n (lv' := [(3, .int y4), (2, .int y2), (0, .ref 0), (1, .int a1)]) eX11_forth_40 rfl (by decide) rfl ?_
    refine q_iload_n 1 eX11_forth_41 rfl rfl ?_
    refine q_iload_n 1 eX11_forth_42 rfl rfl ?_
    refine q_imul eX11_forth_43 ?_
    refine q_iload_n 0 eX11_forth_44 rfl rfl ?_
    refine q_iload_n 0 eX11_forth_45 rfl rfl ?_
    refine q_imul eX11_forth_46 ?_
    refine q_iadd eX11_forth_47 ?_
    refine q_ltI (fun y5 => ?_)
    refine q_istore (lv' := [(4, .int y5), (3, .int y4), (2, .int y2), (0, .ref 0), (1, .int a1)]) eX11_forth_48 (by decide) rfl ?_
    refine q_aload_n 3 eX11_forth_50 rfl rfl ?_
    refine q_iload_n 4 eX11_forth_51 rfl rfl ?_
    refine q_callVI (As := [.int a1]) (st := []) eX11_forth_52 cv_11_370 (kX11_radius X l a1 w) tR_0 rfl (by decide) rfl rfl (Nat.le_of_ble_eq_true rfl) (by decide) (fun r6 w7 => ?_)
    refine q_istore (lv' := [(5, .int r6), (4, .int y5), (3, .int y4), (2, .int y2), (0, .ref 0), (1, .int a1)]) eX11_forth_55 (by decide) rfl ?_
    refine q_iload 1 eX11_forth_57 rfl ?_
    refine q_if_ne (tgt := 76) eX11_forth_59 (by decide) (fun _ => ?_) (fun _ => ?_)
    · refine q_aload_n 4 eX11_forth_62 rfl rfl ?_
      refine q_dup eX11_forth_63 rfl ?_
      refine q_getI eX11_forth_64 fl_11_364 tR_0 rfl ?_
      refine q_iload 0 eX11_forth_67 rfl ?_
      refine q_iadd eX11_forth_69 ?_
      refine q_putI eX11_forth_70 fp_11_364 tR_0 rfl ⟨rfl, rfl⟩ ?_
      refine q_ltW (fun w8 => ?_)
      refine q_goto (tgt := 140) eX11_forth_73 (by decide) ?_
      exact q_sub [4] rfl (jX11_forth_n140 X l w8)
    · refine q_iload 1 eX11_forth_76 rfl ?_
      refine q_callSI (As := [.int y5]) (st := []) eX11_forth_78 cv_11_373 (kX11_root X l y5 w7) rfl rfl (Nat.le_of_ble_eq_true rfl) (by decide) (fun r9 w10 => ?_)
      refine q_istore (lv' := [(6, .int r9), (5, .int r6), (4, .int y5), (3, .int y4), (2, .int y2), (0, .ref 0), (1, .int a1)]) eX11_forth_81 (by decide) rfl ?_
      refine q_iload 2 eX11_forth_83 rfl ?_
      refine q_iload 1 eX11_forth_85 rfl ?_
      refine q_iload 1 eX11_forth_87 rfl ?_
      refine q_imul eX11_forth_89 ?_
      refine q_iadd eX11_forth_90 ?_
      refine q_callSI (As := [.int (y5 + (r6 * r6))]) (st := []) eX11_forth_91 cv_11_373 (kX11_root X l (y5 + (r6 * r6)) w10) rfl rfl (Nat.le_of_ble_eq_true rfl) (by decide) (fun r11 w12 => ?_)
      refine q_istore (lv' := [(7, .int r11), (6, .int r9), (5, .int r6), (4, .int y5), (3, .int y4), (2, .int y2), (0, .ref 0), (1, .int a1)]) eX11_forth_94 (by decide) rfl ?_
      refine q_aload_n 6 eX11_forth_96 rfl rfl ?_
      refine q_aload_n 6 eX11_forth_97 rfl rfl ?_
      refine q_getG (v := 30) eX11_forth_98 fl_11_109 tR_0 rfl gR_0_58 ?_
      refine q_bipush eX11_forth_101 kbipush_6 ?_
      refine q_iload_n 7 eX11_forth_103 rfl rfl ?_
      refine q_imul eX11_forth_104 ?_
      refine q_ltI (fun y13 => ?_)
      refine q_iald eX11_forth_105 tR_30 nR_30 ?_
      refine q_iload_n 5 eX11_forth_106 rfl rfl ?_
      refine q_iload 0 eX11_forth_107 rfl ?_
      refine q_imul eX11_forth_109 ?_
      refine q_iload 1 eX11_forth_110 rfl ?_
      refine q_idiv eX11_forth_112 ?_
      refine q_iadd eX11_forth_113 ?_
      refine q_putI eX11_forth_114 fp_11_364 tR_0 rfl ⟨rfl, rfl⟩ ?_
      refine q_ltW (fun w14 => ?_)
      refine q_aload_n 6 eX11_forth_117 rfl rfl ?_
      refine q_aload_n 6 eX11_forth_118 rfl rfl ?_
      refine q_getG (v := 30) eX11_forth_119 fl_11_109 tR_0 rfl gR_0_58 ?_
      refine q_bipush eX11_forth_122 kbipush_6 ?_
      refine q_iload_n 7 eX11_forth_124 rfl rfl ?_
      refine q_imul eX11_forth_125 ?_
      refine q_iconst eX11_forth_126 kiconst_1 ?_
      refine q_iadd eX11_forth_127 ?_
      refine q_ltI (fun y15 => ?_)
      refine q_iald eX11_forth_128 tR_30 nR_30 ?_
      refine q_iload_n 4 eX11_forth_129 rfl rfl ?_
      refine q_iload 0 eX11_forth_130 rfl ?_
      refine q_imul eX11_forth_132 ?_
      refine q_iload 1 eX11_forth_133 rfl ?_
      refine q_idiv eX11_forth_135 ?_
      refine q_iadd eX11_forth_136 ?_
      refine q_putI eX11_forth_137 fp_11_367 tR_0 rfl ⟨rfl, rfl⟩ ?_
      refine q_ltW (fun w16 => ?_)
      exact q_sub [6] rfl (jX11_forth_n140 X l w16)
  · refine q_aload_n 0 eX11_forth_143 rfl rfl ?_
    refine q_getG (v := 30) eX11_forth_144 fl_11_109 tR_0 rfl gR_0_58 ?_
    refine q_bipush eX11_forth_147 kbipush_6 ?_
    refine q_iload_n 1 eX11_forth_149 rfl rfl ?_
    refine q_imul eX11_forth_150 ?_
    refine q_ltI (fun y17 => ?_)
    refine q_iald eX11_forth_151 tR_30 nR_30 ?_
    refine q_if_ne (tgt := 176) eX11_forth_152 (by decide) (fun _ => ?_) (fun _ => ?_)
    · refine q_aload_n 0 eX11_forth_155 rfl rfl ?_
      refine q_dup eX11_forth_156 rfl ?_
      refine q_getI eX11_forth_157 fl_11_364 tR_0 rfl ?_
      refine q_aload_n 0 eX11_forth_160 rfl rfl ?_
      refine q_iload_n 1 eX11_forth_161 rfl rfl ?_
      refine q_aload_n 0 eX11_forth_162 rfl rfl ?_
      refine q_getI eX11_forth_163 fl_11_367 tR_0 rfl ?_
      refine q_callVI (As := [.int a1, .int (w.1 0 62)]) (st := [.int (w.1 0 61), .ref 0]) eX11_forth_166 cv_11_376 (kX11_drags X l a1 (w.1 0 62) w) tR_0 rfl (by decide) rfl rfl (Nat.le_of_ble_eq_true rfl) (by decide) (fun r18 w19 => ?_)
      refine q_iadd eX11_forth_169 ?_
      refine q_putI eX11_forth_170 fp_11_364 tR_0 rfl ⟨rfl, rfl⟩ ?_
      refine q_ltW (fun w20 => ?_)
      refine q_goto (tgt := 194) eX11_forth_173 (by decide) ?_
      exact q_sub [0] rfl (jX11_forth_n194 X l w20)
    · refine q_aload_n 0 eX11_forth_176 rfl rfl ?_
      refine q_dup eX11_forth_177 rfl ?_
      refine q_getI eX11_forth_178 fl_11_367 tR_0 rfl ?_
      refine q_aload_n 0 eX11_forth_181 rfl rfl ?_
      refine q_iload_n 1 eX11_forth_182 rfl rfl ?_
      refine q_aload_n 0 eX11_forth_183 rfl rfl ?_
      refine q_getI eX11_forth_184 fl_11_364 tR_0 rfl ?_
      refine q_callVI (As := [.int a1, .int (w.1 0 61)]) (st := [.int (w.1 0 62), .ref 0]) eX11_forth_187 cv_11_376 (kX11_drags X l a1 (w.1 0 61) w) tR_0 rfl (by decide) rfl rfl (Nat.le_of_ble_eq_true rfl) (by decide) (fun r21 w22 => ?_)
      refine q_iadd eX11_forth_190 ?_
      refine q_putI eX11_forth_191 fp_11_367 tR_0 rfl ⟨rfl, rfl⟩ ?_
      refine q_ltW (fun w23 => ?_)
      exact q_sub [0] rfl (jX11_forth_n194 X l w23)
def fX11_origin_h28 (rec28 : Int32 → q_W → Option (Int32 × q_W)) (x3 : Int32) (w : q_W) : Option (Int32 × q_W) :=
  if x3 < 0 then
    some ((-1), w)
  else
    q_b (fX11_backs x3 w) fun r1 w2 =>
    if r1 ≤ 0 then
      q_lt (x3 + (-1)) fun y3 =>
      rec28 y3 w2
    else
      if r1 = 1 then
        some (x3, w2)
      else
        some ((-2), w2)
def fX11_origin_l28 : Int32 → q_W → Option (Int32 × q_W) := q_it q_N (fX11_origin_h28) (fun _ _ => none)
set_option maxHeartbeats 4000000 in
set_option maxRecDepth 100000 in
theorem jX11_origin_h28 (X : q_X) (l : Launch) (rec28 : Int32 → q_W → Option (Int32 × q_W)) (hr28 : ∀ x3 w, q_J X S_R l mX11_origin 3 q_tI 28 [(0, .ref 0), (3, .int x3)] [] w (rec28 x3 w)) : ∀ x3 w, q_J X S_R l mX11_origin 3 q_tI 28 [(0, .ref 0), (3, .int x3)] [] w (fX11_origin_h28 rec28 x3 w) := by
  intro x3 w
  refine q_iload_n 1 eX11_origin_28 rfl rfl ?_
  refine q_if_lt (tgt := 63) eX11_origin_29 (by decide) (fun _ => ?_) (fun _ => ?_)
  · refine q_iconst eX11_origin_63 kiconst_m1 ?_
    exact q_ireturn eX11_origin_64 rfl
  · refine q_aload_n 0 eX11_origin_32 rfl rfl ?_
    refine q_iload_n 1 eX11_origin_33 rfl rfl ?_
    refine q_callVI (As := [.int x3]) (st := []) eX11_origin_34 cv_11_382 (kX11_backs X l x3 w) tR_0 rfl (by decide) rfl rfl (Nat.le_of_ble_eq_true rfl) (by decide) (fun r1 w2 => ?_)
    refine q_istore (lv' := [(4, .int r1), (0, .ref 0), (3, .int x3)]) eX11_origin_37 (by decide) rfl ?_
    refine q_iload 0 eX11_origin_39 rfl ?_
    refine q_if_le (tgt := 57) eX11_origin_41 (by decide) (fun _ => ?_) (fun _ => ?_)
    · refine q_ltE (fun y3 hy3 => ?_)
      refine q_iinc (v := y3) (lv' := [(3, .int y3), (4, .int r1), (0, .ref 0)]) 2 eX11_origin_57 rfl hy3 (by decide) rfl ?_
      refine q_goto (tgt := 28) eX11_origin_60 (by decide) ?_
      exact q_sub [2, 0] rfl (hr28 y3 w2)
    · refine q_iload 0 eX11_origin_44 rfl ?_
      refine q_iconst eX11_origin_46 kiconst_1 ?_
      refine q_icmp_ne (tgt := 54) eX11_origin_47 (by decide) (fun _ => ?_) (fun _ => ?_)
      · refine q_iload_n 2 eX11_origin_50 rfl rfl ?_
        refine q_goto (tgt := 56) eX11_origin_51 (by decide) ?_
        exact q_ireturn eX11_origin_56 rfl
      · refine q_bipush eX11_origin_54 kbipush_m2 ?_
        exact q_ireturn eX11_origin_56 rfl
set_option maxHeartbeats 4000000 in
set_option maxRecDepth 100000 in
theorem jX11_origin_l28 (X : q_X) (l : Launch) : ∀ x3 w, q_J X S_R l mX11_origin 3 q_tI 28 [(0, .ref 0), (3, .int x3)] [] w (fX11_origin_l28 x3 w) := by
  exact q_it_ind (fun rc => ∀ x3 w, q_J X S_R l mX11_origin 3 q_tI 28 [(0, .ref 0), (3, .int x3)] [] w (rc x3 w)) _ _ (fun _ _ => q_none) (fun rc hrc => jX11_origin_h28 X l rc hrc) q_N
def fX11_origin (a1 : Int32) (a2 : Int32) (w : q_W) : Option (Int32 × q_W) :=
  q_lt (q_sI w 0 61 a1) fun w1 =>
  q_lt (q_sI w1 0 62 a2) fun w2 =>
  q_b (fX11_isPoint a1 a2 w2) fun r3 w4 =>
  if r3 = 0 then
    some ((-2), w4)
  else
    q_lt ((w4.1 0 55) - 1) fun y5 =>
    fX11_origin_l28 y5 w4
set_option maxHeartbeats 4000000 in
set_option maxRecDepth 100000 in
theorem kX11_origin (X : q_X) (l : Launch) (a1 : Int32) (a2 : Int32) (w : q_W) : q_Ct X S_R l mX11_origin 3 q_tI [.ref 0, .int a1, .int a2] w (fX11_origin a1 a2 w) := by
  refine q_intro (lv := [(0, .ref 0), (1, .int a1), (2, .int a2)]) (by decide +kernel) rfl (Nat.le_of_ble_eq_true rfl) rfl ?_
  refine q_aload_n 0 eX11_origin_0 rfl rfl ?_
  refine q_iload_n 1 eX11_origin_1 rfl rfl ?_
  refine q_putI eX11_origin_2 fp_11_364 tR_0 rfl ⟨rfl, rfl⟩ ?_
  refine q_ltW (fun w1 => ?_)
  refine q_aload_n 0 eX11_origin_5 rfl rfl ?_
  refine q_iload_n 2 eX11_origin_6 rfl rfl ?_
  refine q_putI eX11_origin_7 fp_11_367 tR_0 rfl ⟨rfl, rfl⟩ ?_
  refine q_ltW (fun w2 => ?_)
  refine q_iload_n 1 eX11_origin_10 rfl rfl ?_
  refine q_iload_n 2 eX11_origin_11 rfl rfl ?_
  refine q_callSI (As := [.int a1, .int a2]) (st := []) eX11_origin_12 cv_11_379 (kX11_isPoint X l a1 a2 w2) rfl rfl (Nat.le_of_ble_eq_true rfl) (by decide) (fun r3 w4 => ?_)
  refine q_if_ne (tgt := 21) eX11_origin_15 (by decide) (fun _ => ?_) (fun _ => ?_)
  · refine q_bipush eX11_origin_18 kbipush_m2 ?_
    exact q_ireturn eX11_origin_20 rfl
  · refine q_aload_n 0 eX11_origin_21 rfl rfl ?_
    refine q_getI eX11_origin_22 fl_11_352 tR_0 rfl ?_
    refine q_iconst eX11_origin_25 kiconst_1 ?_
    refine q_isub eX11_origin_26 ?_
    refine q_ltI (fun y5 => ?_)
    refine q_istore_n (lv' := [(3, .int y5), (0, .ref 0), (1, .int a1), (2, .int a2)]) eX11_origin_27 rfl (by decide) rfl ?_
    exact q_sub [1, 0] rfl (jX11_origin_l28 X l y5 w4)
def fX11_colourOf (a1 : Int32) (a2 : Int32) (w : q_W) : Option (Int32 × q_W) :=
  q_b (fX11_origin a1 a2 w) fun r1 w2 =>
  if 0 ≤ r1 then
    q_lt ((6 * r1) + 3) fun y3 =>
    if q_inb y3 720 then
    some ((w2.1 30 (q_ix y3)), w2)
    else none
  else
    some ((-1), w2)
set_option maxHeartbeats 4000000 in
set_option maxRecDepth 100000 in
theorem kX11_colourOf (X : q_X) (l : Launch) (a1 : Int32) (a2 : Int32) (w : q_W) : q_Ct X S_R l mX11_colourOf 4 q_tI [.ref 0, .int a1, .int a2] w (fX11_colourOf a1 a2 w) := by
  refine q_intro (lv := [(0, .ref 0), (1, .int a1), (2, .int a2)]) (by decide +kernel) rfl (Nat.le_of_ble_eq_true rfl) rfl ?_
  refine q_aload_n 0 eX11_colourOf_0 rfl rfl ?_
  refine q_iload_n 1 eX11_colourOf_1 rfl rfl ?_
  refine q_iload_n 2 eX11_colourOf_2 rfl rfl ?_
  refine q_callVI (As := [.int a1, .int a2]) (st := []) eX11_colourOf_3 cv_11_385 (kX11_origin X l a1 a2 w) tR_0 rfl (by decide) rfl rfl (Nat.le_of_ble_eq_true rfl) (by decide) (fun r1 w2 => ?_)
  refine q_istore_n (lv' := [(3, .int r1), (0, .ref 0), (1, .int a1), (2, .int a2)]) eX11_colourOf_6 rfl (by decide) rfl ?_
  refine q_iload_n 0 eX11_colourOf_7 rfl rfl ?_
  refine q_if_ge (tgt := 15) eX11_colourOf_8 (by decide) (fun _ => ?_) (fun _ => ?_)
  · refine q_aload_n 1 eX11_colourOf_15 rfl rfl ?_
    refine q_getG (v := 30) eX11_colourOf_16 fl_11_109 tR_0 rfl gR_0_58 ?_
    refine q_bipush eX11_colourOf_19 kbipush_6 ?_
    refine q_iload_n 0 eX11_colourOf_21 rfl rfl ?_
    refine q_imul eX11_colourOf_22 ?_
    refine q_iconst eX11_colourOf_23 kiconst_3 ?_
    refine q_iadd eX11_colourOf_24 ?_
    refine q_ltI (fun y3 => ?_)
    refine q_iald eX11_colourOf_25 tR_30 nR_30 ?_
    exact q_ireturn eX11_colourOf_26 rfl
  · refine q_iconst eX11_colourOf_11 kiconst_m1 ?_
    refine q_goto (tgt := 26) eX11_colourOf_12 (by decide) ?_
    exact q_ireturn eX11_colourOf_26 rfl
def fX11_colour (a1 : Int32) (a2 : Int32) (a3 : Int32) (w : q_W) : Option (Int32 × q_W) :=
  q_b (fX11_isPoint a1 a2 w) fun r1 w2 =>
  if r1 = 0 then
    some ((-1), w2)
  else
    q_b (fX11_isKnown a3 w2) fun r3 w4 =>
    if r3 = 0 then
      some ((-1), w4)
    else
      q_b (fX11_floats a3 (-1) w4) fun r5 w6 =>
      if r5 = 0 then
        some ((-1), w6)
      else
        q_b (fX11_colourOf a1 a2 w6) fun r7 w8 =>
        some (r7, w8)
set_option maxHeartbeats 4000000 in
set_option maxRecDepth 100000 in
theorem kX11_colour (X : q_X) (l : Launch) (a1 : Int32) (a2 : Int32) (a3 : Int32) (w : q_W) : q_Ct X S_R l mX11_colour 5 q_tI [.ref 0, .int a1, .int a2, .int a3] w (fX11_colour a1 a2 a3 w) := by
  refine q_intro (lv := [(0, .ref 0), (1, .int a1), (2, .int a2), (3, .int a3)]) (by decide +kernel) rfl (Nat.le_of_ble_eq_true rfl) rfl ?_
  refine q_iload_n 1 eX11_colour_0 rfl rfl ?_
  refine q_iload_n 2 eX11_colour_1 rfl rfl ?_
  refine q_callSI (As := [.int a1, .int a2]) (st := []) eX11_colour_2 cv_11_379 (kX11_isPoint X l a1 a2 w) rfl rfl (Nat.le_of_ble_eq_true rfl) (by decide) (fun r1 w2 => ?_)
  refine q_if_eq (tgt := 16) eX11_colour_5 (by decide) (fun _ => ?_) (fun _ => ?_)
  · refine q_iconst eX11_colour_16 kiconst_m1 ?_
    exact q_ireturn eX11_colour_17 rfl
  · refine q_aload_n 0 eX11_colour_8 rfl rfl ?_
    refine q_iload_n 3 eX11_colour_9 rfl rfl ?_
    refine q_callVI (As := [.int a3]) (st := []) eX11_colour_10 cv_11_345 (kX11_isKnown X l a3 w2) tR_0 rfl (by decide) rfl rfl (Nat.le_of_ble_eq_true rfl) (by decide) (fun r3 w4 => ?_)
    refine q_if_ne (tgt := 18) eX11_colour_13 (by decide) (fun _ => ?_) (fun _ => ?_)
    · refine q_iconst eX11_colour_16 kiconst_m1 ?_
      exact q_ireturn eX11_colour_17 rfl
    · refine q_aload_n 0 eX11_colour_18 rfl rfl ?_
      refine q_iload_n 3 eX11_colour_19 rfl rfl ?_
      refine q_iconst eX11_colour_20 kiconst_m1 ?_
      refine q_callVI (As := [.int a3, .int (-1)]) (st := []) eX11_colour_21 cv_11_388 (kX11_floats X l a3 (-1) w4) tR_0 rfl (by decide) rfl rfl (Nat.le_of_ble_eq_true rfl) (by decide) (fun r5 w6 => ?_)
      refine q_istore (lv' := [(4, .int r5), (0, .ref 0), (1, .int a1), (2, .int a2), (3, .int a3)]) eX11_colour_24 (by decide) rfl ?_
      refine q_iload 0 eX11_colour_26 rfl ?_
      refine q_if_eq (tgt := 40) eX11_colour_28 (by decide) (fun _ => ?_) (fun _ => ?_)
      · refine q_iconst eX11_colour_40 kiconst_m1 ?_
        exact q_ireturn eX11_colour_41 rfl
      · refine q_aload_n 1 eX11_colour_31 rfl rfl ?_
        refine q_iload_n 2 eX11_colour_32 rfl rfl ?_
        refine q_iload_n 3 eX11_colour_33 rfl rfl ?_
        refine q_callVI (As := [.int a1, .int a2]) (st := []) eX11_colour_34 cv_11_391 (kX11_colourOf X l a1 a2 w6) tR_0 rfl (by decide) rfl rfl (Nat.le_of_ble_eq_true rfl) (by decide) (fun r7 w8 => ?_)
        refine q_goto (tgt := 41) eX11_colour_37 (by decide) ?_
        exact q_ireturn eX11_colour_41 rfl
def fX11_from (a1 : Int32) (a2 : Int32) (a3 : Int32) (a4 : Int32) (w : q_W) : Option (Int32 × q_W) :=
  q_b (fX11_isPoint a1 a2 w) fun r1 w2 =>
  if r1 = 0 then
    some ((-1), w2)
  else
    q_b (fX11_isKnown a3 w2) fun r3 w4 =>
    if r3 = 0 then
      some ((-1), w4)
    else
      if a4 < 0 then
        some ((-1), w4)
      else
        if 2 < a4 then
          some ((-1), w4)
        else
          q_b (fX11_floats a3 (-1) w4) fun r5 w6 =>
          if r5 = 0 then
            some ((-1), w6)
          else
            q_b (fX11_origin a1 a2 w6) fun r7 w8 =>
            if a4 = 0 then
              if 0 ≤ r7 then
                if q_inb r7 120 then
                some ((w8.1 31 (q_ix r7)), w8)
                else none
              else
                some ((-1), w8)
            else
              if r7 = (-2) then
                some ((-1), w8)
              else
                if a4 = 1 then
                  some ((w8.1 0 61), w8)
                else
                  some ((w8.1 0 62), w8)
set_option maxHeartbeats 4000000 in
set_option maxRecDepth 100000 in
theorem kX11_from (X : q_X) (l : Launch) (a1 : Int32) (a2 : Int32) (a3 : Int32) (a4 : Int32) (w : q_W) : q_Ct X S_R l mX11_from 4 q_tI [.ref 0, .int a1, .int a2, .int a3, .int a4] w (fX11_from a1 a2 a3 a4 w) := by
  refine q_intro (lv := [(0, .ref 0), (1, .int a1), (2, .int a2), (3, .int a3), (4, .int a4)]) (by decide +kernel) rfl (Nat.le_of_ble_eq_true rfl) rfl ?_
  refine q_iload_n 1 eX11_from_0 rfl rfl ?_
  refine q_iload_n 2 eX11_from_1 rfl rfl ?_
  refine q_callSI (As := [.int a1, .int a2]) (st := []) eX11_from_2 cv_11_379 (kX11_isPoint X l a1 a2 w) rfl rfl (Nat.le_of_ble_eq_true rfl) (by decide) (fun r1 w2 => ?_)
  refine q_if_eq (tgt := 36) eX11_from_5 (by decide) (fun _ => ?_) (fun _ => ?_)
  · refine q_iconst eX11_from_36 kiconst_m1 ?_
    exact q_ireturn eX11_from_37 rfl
  · refine q_aload_n 0 eX11_from_8 rfl rfl ?_
    refine q_iload_n 3 eX11_from_9 rfl rfl ?_
    refine q_callVI (As := [.int a3]) (st := []) eX11_from_10 cv_11_345 (kX11_isKnown X l a3 w2) tR_0 rfl (by decide) rfl rfl (Nat.le_of_ble_eq_true rfl) (by decide) (fun r3 w4 => ?_)
    refine q_if_eq (tgt := 36) eX11_from_13 (by decide) (fun _ => ?_) (fun _ => ?_)
    · refine q_iconst eX11_from_36 kiconst_m1 ?_
      exact q_ireturn eX11_from_37 rfl
    · refine q_iload 4 eX11_from_16 rfl ?_
      refine q_if_lt (tgt := 36) eX11_from_18 (by decide) (fun _ => ?_) (fun _ => ?_)
      · refine q_iconst eX11_from_36 kiconst_m1 ?_
        exact q_ireturn eX11_from_37 rfl
      · refine q_iload 4 eX11_from_21 rfl ?_
        refine q_iconst eX11_from_23 kiconst_2 ?_
        refine q_icmp_gt (tgt := 36) eX11_from_24 (by decide) (fun _ => ?_) (fun _ => ?_)
        · refine q_iconst eX11_from_36 kiconst_m1 ?_
          exact q_ireturn eX11_from_37 rfl
        · refine q_aload_n 0 eX11_from_27 rfl rfl ?_
          refine q_iload_n 3 eX11_from_28 rfl rfl ?_
          refine q_iconst eX11_from_29 kiconst_m1 ?_
          refine q_callVI (As := [.int a3, .int (-1)]) (st := []) eX11_from_30 cv_11_388 (kX11_floats X l a3 (-1) w4) tR_0 rfl (by decide) rfl rfl (Nat.le_of_ble_eq_true rfl) (by decide) (fun r5 w6 => ?_)
          refine q_if_ne (tgt := 38) eX11_from_33 (by decide) (fun _ => ?_) (fun _ => ?_)
          · refine q_iconst eX11_from_36 kiconst_m1 ?_
            exact q_ireturn eX11_from_37 rfl
          · refine q_aload_n 0 eX11_from_38 rfl rfl ?_
            refine q_iload_n 1 eX11_from_39 rfl rfl ?_
            refine q_iload_n 2 eX11_from_40 rfl rfl ?_
            refine q_callVI (As := [.int a1, .int a2]) (st := []) eX11_from_41 cv_11_385 (kX11_origin X l a1 a2 w6) tR_0 rfl (by decide) rfl rfl (Nat.le_of_ble_eq_true rfl) (by decide) (fun r7 w8 => ?_)
            refine q_istore (lv' := [(5, .int r7), (0, .ref 0), (1, .int a1), (2, .int a2), (3, .int a3), (4, .int a4)]) eX11_from_44 (by decide) rfl ?_
            refine q_iload 5 eX11_from_46 rfl ?_
            refine q_if_ne (tgt := 68) eX11_from_48 (by decide) (fun _ => ?_) (fun _ => ?_)
            · refine q_iload 0 eX11_from_51 rfl ?_
              refine q_if_ge (tgt := 60) eX11_from_53 (by decide) (fun _ => ?_) (fun _ => ?_)
              · refine q_aload_n 1 eX11_from_60 rfl rfl ?_
                refine q_getG (v := 31) eX11_from_61 fl_11_112 tR_0 rfl gR_0_59 ?_
                refine q_iload 0 eX11_from_64 rfl ?_
                refine q_iald eX11_from_66 tR_31 nR_31 ?_
                exact q_ireturn eX11_from_67 rfl
              · refine q_iconst eX11_from_56 kiconst_m1 ?_
                refine q_goto (tgt := 67) eX11_from_57 (by decide) ?_
                exact q_ireturn eX11_from_67 rfl
            · refine q_iload 0 eX11_from_68 rfl ?_
              refine q_bipush eX11_from_70 kbipush_m2 ?_
              refine q_icmp_ne (tgt := 79) eX11_from_72 (by decide) (fun _ => ?_) (fun _ => ?_)
              · refine q_iconst eX11_from_75 kiconst_m1 ?_
                refine q_goto (tgt := 96) eX11_from_76 (by decide) ?_
                exact q_ireturn eX11_from_96 rfl
              · refine q_iload 5 eX11_from_79 rfl ?_
                refine q_iconst eX11_from_81 kiconst_1 ?_
                refine q_icmp_ne (tgt := 92) eX11_from_82 (by decide) (fun _ => ?_) (fun _ => ?_)
                · refine q_aload_n 1 eX11_from_85 rfl rfl ?_
                  refine q_getI eX11_from_86 fl_11_364 tR_0 rfl ?_
                  refine q_goto (tgt := 96) eX11_from_89 (by decide) ?_
                  exact q_ireturn eX11_from_96 rfl
                · refine q_aload_n 1 eX11_from_92 rfl rfl ?_
                  refine q_getI eX11_from_93 fl_11_367 tR_0 rfl ?_
                  exact q_ireturn eX11_from_96 rfl
def fX11_goes_h12 (rec12 : Int32 → q_W → Option (Int32 × q_W)) (x3 : Int32) (w : q_W) : Option (Int32 × q_W) :=
  if (w.1 0 55) ≤ x3 then
    some (1, w)
  else
    q_b (fX11_forth x3 w) fun r1 w2 =>
    if r1 = 0 then
      some (0, w2)
    else
      q_lt (x3 + 1) fun y3 =>
      rec12 y3 w2
def fX11_goes_l12 : Int32 → q_W → Option (Int32 × q_W) := q_it q_N (fX11_goes_h12) (fun _ _ => none)
set_option maxHeartbeats 4000000 in
set_option maxRecDepth 100000 in
theorem jX11_goes_h12 (X : q_X) (l : Launch) (rec12 : Int32 → q_W → Option (Int32 × q_W)) (hr12 : ∀ x3 w, q_J X S_R l mX11_goes 3 q_tI 12 [(0, .ref 0), (3, .int x3)] [] w (rec12 x3 w)) : ∀ x3 w, q_J X S_R l mX11_goes 3 q_tI 12 [(0, .ref 0), (3, .int x3)] [] w (fX11_goes_h12 rec12 x3 w) := by
  intro x3 w
  refine q_iload_n 1 eX11_goes_12 rfl rfl ?_
  refine q_aload_n 0 eX11_goes_13 rfl rfl ?_
  refine q_getI eX11_goes_14 fl_11_352 tR_0 rfl ?_
  refine q_icmp_ge (tgt := 36) eX11_goes_17 (by decide) (fun _ => ?_) (fun _ => ?_)
  · refine q_iconst eX11_goes_36 kiconst_1 ?_
    exact q_zret eX11_goes_37 rfl rfl
  · refine q_aload_n 0 eX11_goes_20 rfl rfl ?_
    refine q_iload_n 1 eX11_goes_21 rfl rfl ?_
    refine q_callVI (As := [.int x3]) (st := []) eX11_goes_22 cv_11_394 (kX11_forth X l x3 w) tR_0 rfl (by decide) rfl rfl (Nat.le_of_ble_eq_true rfl) (by decide) (fun r1 w2 => ?_)
    refine q_if_ne (tgt := 30) eX11_goes_25 (by decide) (fun _ => ?_) (fun _ => ?_)
    · refine q_iconst eX11_goes_28 kiconst_0 ?_
      exact q_zret eX11_goes_29 rfl rfl
    · refine q_ltE (fun y3 hy3 => ?_)
      refine q_iinc (v := y3) (lv' := [(3, .int y3), (0, .ref 0)]) 1 eX11_goes_30 rfl hy3 (by decide) rfl ?_
      refine q_goto (tgt := 12) eX11_goes_33 (by decide) ?_
      exact q_sub [1, 0] rfl (hr12 y3 w2)
set_option maxHeartbeats 4000000 in
set_option maxRecDepth 100000 in
theorem jX11_goes_l12 (X : q_X) (l : Launch) : ∀ x3 w, q_J X S_R l mX11_goes 3 q_tI 12 [(0, .ref 0), (3, .int x3)] [] w (fX11_goes_l12 x3 w) := by
  exact q_it_ind (fun rc => ∀ x3 w, q_J X S_R l mX11_goes 3 q_tI 12 [(0, .ref 0), (3, .int x3)] [] w (rc x3 w)) _ _ (fun _ _ => q_none) (fun rc hrc => jX11_goes_h12 X l rc hrc) q_N
def fX11_goes (a1 : Int32) (a2 : Int32) (w : q_W) : Option (Int32 × q_W) :=
  q_lt (q_sI w 0 61 a1) fun w1 =>
  q_lt (q_sI w1 0 62 a2) fun w2 =>
  fX11_goes_l12 0 w2
set_option maxHeartbeats 4000000 in
set_option maxRecDepth 100000 in
theorem kX11_goes (X : q_X) (l : Launch) (a1 : Int32) (a2 : Int32) (w : q_W) : q_Ct X S_R l mX11_goes 3 q_tI [.ref 0, .int a1, .int a2] w (fX11_goes a1 a2 w) := by
  refine q_intro (lv := [(0, .ref 0), (1, .int a1), (2, .int a2)]) (by decide +kernel) rfl (Nat.le_of_ble_eq_true rfl) rfl ?_
  refine q_aload_n 0 eX11_goes_0 rfl rfl ?_
  refine q_iload_n 1 eX11_goes_1 rfl rfl ?_
  refine q_putI eX11_goes_2 fp_11_364 tR_0 rfl ⟨rfl, rfl⟩ ?_
  refine q_ltW (fun w1 => ?_)
  refine q_aload_n 0 eX11_goes_5 rfl rfl ?_
  refine q_iload_n 2 eX11_goes_6 rfl rfl ?_
  refine q_putI eX11_goes_7 fp_11_367 tR_0 rfl ⟨rfl, rfl⟩ ?_
  refine q_ltW (fun w2 => ?_)
  refine q_iconst eX11_goes_10 kiconst_0 ?_
  refine q_istore_n (lv' := [(3, .int 0), (0, .ref 0), (1, .int a1), (2, .int a2)]) eX11_goes_11 rfl (by decide) rfl ?_
  exact q_sub [1, 0] rfl (jX11_goes_l12 X l 0 w2)
def fX11_to (a1 : Int32) (a2 : Int32) (a3 : Int32) (a4 : Int32) (w : q_W) : Option (Int32 × q_W) :=
  q_b (fX11_isPoint a1 a2 w) fun r1 w2 =>
  if r1 = 0 then
    some ((-1), w2)
  else
    q_b (fX11_isKnown a3 w2) fun r3 w4 =>
    if r3 = 0 then
      some ((-1), w4)
    else
      if a4 < 0 then
        some ((-1), w4)
      else
        if 1 < a4 then
          some ((-1), w4)
        else
          q_b (fX11_floats a3 (-1) w4) fun r5 w6 =>
          if r5 = 0 then
            some ((-1), w6)
          else
            q_b (fX11_goes a1 a2 w6) fun r7 w8 =>
            if r7 = 0 then
              some ((-1), w8)
            else
              if a4 = 0 then
                some ((w8.1 0 61), w8)
              else
                some ((w8.1 0 62), w8)
set_option maxHeartbeats 4000000 in
set_option maxRecDepth 100000 in
theorem kX11_to (X : q_X) (l : Launch) (a1 : Int32) (a2 : Int32) (a3 : Int32) (a4 : Int32) (w : q_W) : q_Ct X S_R l mX11_to 4 q_tI [.ref 0, .int a1, .int a2, .int a3, .int a4] w (fX11_to a1 a2 a3 a4 w) := by
  refine q_intro (lv := [(0, .ref 0), (1, .int a1), (2, .int a2), (3, .int a3), (4, .int a4)]) (by decide +kernel) rfl (Nat.le_of_ble_eq_true rfl) rfl ?_
  refine q_iload_n 1 eX11_to_0 rfl rfl ?_
  refine q_iload_n 2 eX11_to_1 rfl rfl ?_
  refine q_callSI (As := [.int a1, .int a2]) (st := []) eX11_to_2 cv_11_379 (kX11_isPoint X l a1 a2 w) rfl rfl (Nat.le_of_ble_eq_true rfl) (by decide) (fun r1 w2 => ?_)
  refine q_if_eq (tgt := 36) eX11_to_5 (by decide) (fun _ => ?_) (fun _ => ?_)
  · refine q_iconst eX11_to_36 kiconst_m1 ?_
    exact q_ireturn eX11_to_37 rfl
  · refine q_aload_n 0 eX11_to_8 rfl rfl ?_
    refine q_iload_n 3 eX11_to_9 rfl rfl ?_
    refine q_callVI (As := [.int a3]) (st := []) eX11_to_10 cv_11_345 (kX11_isKnown X l a3 w2) tR_0 rfl (by decide) rfl rfl (Nat.le_of_ble_eq_true rfl) (by decide) (fun r3 w4 => ?_)
    refine q_if_eq (tgt := 36) eX11_to_13 (by decide) (fun _ => ?_) (fun _ => ?_)
    · refine q_iconst eX11_to_36 kiconst_m1 ?_
      exact q_ireturn eX11_to_37 rfl
    · refine q_iload 4 eX11_to_16 rfl ?_
      refine q_if_lt (tgt := 36) eX11_to_18 (by decide) (fun _ => ?_) (fun _ => ?_)
      · refine q_iconst eX11_to_36 kiconst_m1 ?_
        exact q_ireturn eX11_to_37 rfl
      · refine q_iload 4 eX11_to_21 rfl ?_
        refine q_iconst eX11_to_23 kiconst_1 ?_
        refine q_icmp_gt (tgt := 36) eX11_to_24 (by decide) (fun _ => ?_) (fun _ => ?_)
        · refine q_iconst eX11_to_36 kiconst_m1 ?_
          exact q_ireturn eX11_to_37 rfl
        · refine q_aload_n 0 eX11_to_27 rfl rfl ?_
          refine q_iload_n 3 eX11_to_28 rfl rfl ?_
          refine q_iconst eX11_to_29 kiconst_m1 ?_
          refine q_callVI (As := [.int a3, .int (-1)]) (st := []) eX11_to_30 cv_11_388 (kX11_floats X l a3 (-1) w4) tR_0 rfl (by decide) rfl rfl (Nat.le_of_ble_eq_true rfl) (by decide) (fun r5 w6 => ?_)
          refine q_if_ne (tgt := 38) eX11_to_33 (by decide) (fun _ => ?_) (fun _ => ?_)
          · refine q_iconst eX11_to_36 kiconst_m1 ?_
            exact q_ireturn eX11_to_37 rfl
          · refine q_aload_n 0 eX11_to_38 rfl rfl ?_
            refine q_iload_n 1 eX11_to_39 rfl rfl ?_
            refine q_iload_n 2 eX11_to_40 rfl rfl ?_
            refine q_callVI (As := [.int a1, .int a2]) (st := []) eX11_to_41 cv_11_397 (kX11_goes X l a1 a2 w6) tR_0 rfl (by decide) rfl rfl (Nat.le_of_ble_eq_true rfl) (by decide) (fun r7 w8 => ?_)
            refine q_if_ne (tgt := 51) eX11_to_44 (by decide) (fun _ => ?_) (fun _ => ?_)
            · refine q_iconst eX11_to_47 kiconst_m1 ?_
              refine q_goto (tgt := 67) eX11_to_48 (by decide) ?_
              exact q_ireturn eX11_to_67 rfl
            · refine q_iload 4 eX11_to_51 rfl ?_
              refine q_if_ne (tgt := 63) eX11_to_53 (by decide) (fun _ => ?_) (fun _ => ?_)
              · refine q_aload_n 0 eX11_to_56 rfl rfl ?_
                refine q_getI eX11_to_57 fl_11_364 tR_0 rfl ?_
                refine q_goto (tgt := 67) eX11_to_60 (by decide) ?_
                exact q_ireturn eX11_to_67 rfl
              · refine q_aload_n 0 eX11_to_63 rfl rfl ?_
                refine q_getI eX11_to_64 fl_11_367 tR_0 rfl ?_
                exact q_ireturn eX11_to_67 rfl
def fX11_home_n78 (x2 : Int32) (s0 : Int32) (w : q_W) : Option (Int32 × q_W) :=
  if (w.1 0 62) ≤ x2 then
    some ((s0 + (x2 - (w.1 0 62))), w)
  else
    some ((s0 + ((w.1 0 62) - x2)), w)
set_option maxHeartbeats 4000000 in
set_option maxRecDepth 100000 in
theorem jX11_home_n78 (X : q_X) (l : Launch) (x2 : Int32) (s0 : Int32) (w : q_W) : q_J X S_R l mX11_home 4 q_tI 78 [(0, .ref 0), (2, .int x2)] [.int s0] w (fX11_home_n78 x2 s0 w) := by
  refine q_aload_n 0 eX11_home_78 rfl rfl ?_
  refine q_getI eX11_home_79 fl_11_367 tR_0 rfl ?_
  refine q_iload_n 1 eX11_home_82 rfl rfl ?_
  refine q_icmp_le (tgt := 95) eX11_home_83 (by decide) (fun _ => ?_) (fun _ => ?_)
  · refine q_iload_n 1 eX11_home_95 rfl rfl ?_
    refine q_aload_n 0 eX11_home_96 rfl rfl ?_
    refine q_getI eX11_home_97 fl_11_367 tR_0 rfl ?_
    refine q_isub eX11_home_100 ?_
    refine q_iadd eX11_home_101 ?_
    exact q_ireturn eX11_home_102 rfl
  · refine q_aload_n 0 eX11_home_86 rfl rfl ?_
    refine q_getI eX11_home_87 fl_11_367 tR_0 rfl ?_
    refine q_iload_n 1 eX11_home_90 rfl rfl ?_
    refine q_isub eX11_home_91 ?_
    refine q_goto (tgt := 101) eX11_home_92 (by decide) ?_
    refine q_iadd eX11_home_101 ?_
    exact q_ireturn eX11_home_102 rfl
def fX11_home (a1 : Int32) (a2 : Int32) (a3 : Int32) (w : q_W) : Option (Int32 × q_W) :=
  q_b (fX11_isPoint a1 a2 w) fun r1 w2 =>
  if r1 = 0 then
    some ((-1), w2)
  else
    q_b (fX11_isKnown a3 w2) fun r3 w4 =>
    if r3 = 0 then
      some ((-1), w4)
    else
      q_b (fX11_floats a3 (-1) w4) fun r5 w6 =>
      if r5 = 0 then
        some ((-1), w6)
      else
        q_b (fX11_goes a1 a2 w6) fun r7 w8 =>
        if r7 = 0 then
          some ((-2), w8)
        else
          q_b (fX11_origin (w8.1 0 61) (w8.1 0 62) w8) fun r9 w10 =>
          if r9 = (-1) then
            if (w10.1 0 61) ≤ a1 then
              fX11_home_n78 a2 (a1 - (w10.1 0 61)) w10
            else
              fX11_home_n78 a2 ((w10.1 0 61) - a1) w10
          else
            some ((-2), w10)
set_option maxHeartbeats 4000000 in
set_option maxRecDepth 100000 in
theorem kX11_home (X : q_X) (l : Launch) (a1 : Int32) (a2 : Int32) (a3 : Int32) (w : q_W) : q_Ct X S_R l mX11_home 4 q_tI [.ref 0, .int a1, .int a2, .int a3] w (fX11_home a1 a2 a3 w) := by
  refine q_intro (lv := [(0, .ref 0), (1, .int a1), (2, .int a2), (3, .int a3)]) (by decide +kernel) rfl (Nat.le_of_ble_eq_true rfl) rfl ?_
  refine q_iload_n 1 eX11_home_0 rfl rfl ?_
  refine q_iload_n 2 eX11_home_1 rfl rfl ?_
  refine q_callSI (As := [.int a1, .int a2]) (st := []) eX11_home_2 cv_11_379 (kX11_isPoint X l a1 a2 w) rfl rfl (Nat.le_of_ble_eq_true rfl) (by decide) (fun r1 w2 => ?_)
  refine q_if_eq (tgt := 25) eX11_home_5 (by decide) (fun _ => ?_) (fun _ => ?_)
  · refine q_iconst eX11_home_25 kiconst_m1 ?_
    exact q_ireturn eX11_home_26 rfl
  · refine q_aload_n 0 eX11_home_8 rfl rfl ?_
    refine q_iload_n 3 eX11_home_9 rfl rfl ?_
    refine q_callVI (As := [.int a3]) (st := []) eX11_home_10 cv_11_345 (kX11_isKnown X l a3 w2) tR_0 rfl (by decide) rfl rfl (Nat.le_of_ble_eq_true rfl) (by decide) (fun r3 w4 => ?_)
    refine q_if_eq (tgt := 25) eX11_home_13 (by decide) (fun _ => ?_) (fun _ => ?_)
    · refine q_iconst eX11_home_25 kiconst_m1 ?_
      exact q_ireturn eX11_home_26 rfl
    · refine q_aload_n 0 eX11_home_16 rfl rfl ?_
      refine q_iload_n 3 eX11_home_17 rfl rfl ?_
      refine q_iconst eX11_home_18 kiconst_m1 ?_
      refine q_callVI (As := [.int a3, .int (-1)]) (st := []) eX11_home_19 cv_11_388 (kX11_floats X l a3 (-1) w4) tR_0 rfl (by decide) rfl rfl (Nat.le_of_ble_eq_true rfl) (by decide) (fun r5 w6 => ?_)
      refine q_if_ne (tgt := 27) eX11_home_22 (by decide) (fun _ => ?_) (fun _ => ?_)
      · refine q_iconst eX11_home_25 kiconst_m1 ?_
        exact q_ireturn eX11_home_26 rfl
      · refine q_aload_n 0 eX11_home_27 rfl rfl ?_
        refine q_iload_n 1 eX11_home_28 rfl rfl ?_
        refine q_iload_n 2 eX11_home_29 rfl rfl ?_
        refine q_callVI (As := [.int a1, .int a2]) (st := []) eX11_home_30 cv_11_397 (kX11_goes X l a1 a2 w6) tR_0 rfl (by decide) rfl rfl (Nat.le_of_ble_eq_true rfl) (by decide) (fun r7 w8 => ?_)
        refine q_if_eq (tgt := 52) eX11_home_33 (by decide) (fun _ => ?_) (fun _ => ?_)
        · refine q_bipush eX11_home_52 kbipush_m2 ?_
          exact q_ireturn eX11_home_54 rfl
        · refine q_aload_n 0 eX11_home_36 rfl rfl ?_
          refine q_aload_n 0 eX11_home_37 rfl rfl ?_
          refine q_getI eX11_home_38 fl_11_364 tR_0 rfl ?_
          refine q_aload_n 0 eX11_home_41 rfl rfl ?_
          refine q_getI eX11_home_42 fl_11_367 tR_0 rfl ?_
          refine q_callVI (As := [.int (w8.1 0 61), .int (w8.1 0 62)]) (st := []) eX11_home_45 cv_11_385 (kX11_origin X l (w8.1 0 61) (w8.1 0 62) w8) tR_0 rfl (by decide) rfl rfl (Nat.le_of_ble_eq_true rfl) (by decide) (fun r9 w10 => ?_)
          refine q_iconst eX11_home_48 kiconst_m1 ?_
          refine q_icmp_eq (tgt := 55) eX11_home_49 (by decide) (fun _ => ?_) (fun _ => ?_)
          · refine q_aload_n 0 eX11_home_55 rfl rfl ?_
            refine q_getI eX11_home_56 fl_11_364 tR_0 rfl ?_
            refine q_iload_n 1 eX11_home_59 rfl rfl ?_
            refine q_icmp_le (tgt := 72) eX11_home_60 (by decide) (fun _ => ?_) (fun _ => ?_)
            · refine q_iload_n 1 eX11_home_72 rfl rfl ?_
              refine q_aload_n 0 eX11_home_73 rfl rfl ?_
              refine q_getI eX11_home_74 fl_11_364 tR_0 rfl ?_
              refine q_isub eX11_home_77 ?_
              exact q_sub [0, 2] rfl (jX11_home_n78 X l a2 (a1 - (w10.1 0 61)) w10)
            · refine q_aload_n 0 eX11_home_63 rfl rfl ?_
              refine q_getI eX11_home_64 fl_11_364 tR_0 rfl ?_
              refine q_iload_n 1 eX11_home_67 rfl rfl ?_
              refine q_isub eX11_home_68 ?_
              refine q_goto (tgt := 78) eX11_home_69 (by decide) ?_
              exact q_sub [0, 2] rfl (jX11_home_n78 X l a2 ((w10.1 0 61) - a1) w10)
          · refine q_bipush eX11_home_52 kbipush_m2 ?_
            exact q_ireturn eX11_home_54 rfl
def fX11_lays_n62 (rec2 : Int32 → Int32 → q_W → Option (Unit × q_W)) (rec10 : Int32 → Int32 → Int32 → q_W → Option (Unit × q_W)) (x1 : Int32) (x2 : Int32) (x3 : Int32) (s0 : Int32) (s1 : Int32) (s2 : Int32) (s4 : Int32) (w : q_W) : Option (Unit × q_W) :=
  q_b (fX11_colourOf s2 (s1 + s0) w) fun r1 w2 =>
  if q_inb s4 512 then
  q_lt (q_sI w2 32 (q_ix s4) r1) fun w3 =>
  q_lt (x3 + 1) fun y4 =>
  rec10 x1 x2 y4 w3
  else none
set_option maxHeartbeats 4000000 in
set_option maxRecDepth 100000 in
theorem jX11_lays_n62 (X : q_X) (l : Launch) (rec2 : Int32 → Int32 → q_W → Option (Unit × q_W)) (rec10 : Int32 → Int32 → Int32 → q_W → Option (Unit × q_W)) (hr2 : ∀ x1 x2 w, q_J X S_R l mX11_lays 5 q_tV 2 [(0, .ref 0), (1, .int x1), (2, .int x2)] [] w (rec2 x1 x2 w)) (hr10 : ∀ x1 x2 x3 w, q_J X S_R l mX11_lays 5 q_tV 10 [(0, .ref 0), (1, .int x1), (2, .int x2), (3, .int x3)] [] w (rec10 x1 x2 x3 w)) (x1 : Int32) (x2 : Int32) (x3 : Int32) (s0 : Int32) (s1 : Int32) (s2 : Int32) (s4 : Int32) (w : q_W) : q_J X S_R l mX11_lays 5 q_tV 62 [(0, .ref 0), (1, .int x1), (2, .int x2), (3, .int x3)] [.int s0, .int s1, .int s2, .ref 0, .int s4, .ref 32] w (fX11_lays_n62 rec2 rec10 x1 x2 x3 s0 s1 s2 s4 w) := by
  refine q_iadd eX11_lays_62 ?_
  refine q_callVI (As := [.int s2, .int (s1 + s0)]) (st := [.int s4, .ref 32]) eX11_lays_63 cv_11_391 (kX11_colourOf X l s2 (s1 + s0) w) tR_0 rfl (by decide) rfl rfl (Nat.le_of_ble_eq_true rfl) (by decide) (fun r1 w2 => ?_)
  refine q_iast eX11_lays_66 tR_32 nR_32 ?_
  refine q_ltW (fun w3 => ?_)
  refine q_ltE (fun y4 hy4 => ?_)
  refine q_iinc (v := y4) (lv' := [(3, .int y4), (0, .ref 0), (1, .int x1), (2, .int x2)]) 3 eX11_lays_67 rfl hy4 (by decide) rfl ?_
  refine q_goto (tgt := 10) eX11_lays_70 (by decide) ?_
  exact q_sub [1, 2, 3, 0] rfl (hr10 x1 x2 y4 w3)
def fX11_lays_h10 (rec2 : Int32 → Int32 → q_W → Option (Unit × q_W)) (rec10 : Int32 → Int32 → Int32 → q_W → Option (Unit × q_W)) (x1 : Int32) (x2 : Int32) (x3 : Int32) (w : q_W) : Option (Unit × q_W) :=
  if 16 ≤ x3 then
    q_lt (x2 + 1) fun y1 =>
    rec2 x1 y1 w
  else
    if (x2 - x2 / 2 * 2) = 1 then
      fX11_lays_n62 rec2 rec10 x1 x2 x3 (w.1 0 60) ((64 * x3) + 32) ((64 * x2) + 32) (((256 * x1) + (16 * x2)) + x3) w
    else
      fX11_lays_n62 rec2 rec10 x1 x2 x3 0 ((64 * x3) + 32) ((64 * x2) + 32) (((256 * x1) + (16 * x2)) + x3) w
def fX11_lays_l10 (rec2 : Int32 → Int32 → q_W → Option (Unit × q_W)) : Int32 → Int32 → Int32 → q_W → Option (Unit × q_W) := q_it q_N (fX11_lays_h10 rec2) (fun _ _ _ _ => none)
set_option maxHeartbeats 4000000 in
set_option maxRecDepth 100000 in
theorem jX11_lays_h10 (X : q_X) (l : Launch) (rec2 : Int32 → Int32 → q_W → Option (Unit × q_W)) (hr2 : ∀ x1 x2 w, q_J X S_R l mX11_lays 5 q_tV 2 [(0, .ref 0), (1, .int x1), (2, .int x2)] [] w (rec2 x1 x2 w)) (rec10 : Int32 → Int32 → Int32 → q_W → Option (Unit × q_W)) (hr10 : ∀ x1 x2 x3 w, q_J X S_R l mX11_lays 5 q_tV 10 [(0, .ref 0), (1, .int x1), (2, .int x2), (3, .int x3)] [] w (rec10 x1 x2 x3 w)) : ∀ x1 x2 x3 w, q_J X S_R l mX11_lays 5 q_tV 10 [(0, .ref 0), (1, .int x1), (2, .int x2), (3, .int x3)] [] w (fX11_lays_h10 rec2 rec10 x1 x2 x3 w) := by
  intro x1 x2 x3 w
  refine q_iload_n 3 eX11_lays_10 rfl rfl ?_
  refine q_bipush eX11_lays_11 kbipush_16 ?_
  refine q_icmp_ge (tgt := 73) eX11_lays_13 (by decide) (fun _ => ?_) (fun _ => ?_)
  · refine q_ltE (fun y1 hy1 => ?_)
    refine q_iinc (v := y1) (lv' := [(2, .int y1), (0, .ref 0), (1, .int x1), (3, .int x3)]) 2 eX11_lays_73 rfl hy1 (by decide) rfl ?_
    refine q_goto (tgt := 2) eX11_lays_76 (by decide) ?_
    exact q_sub [1, 2, 0] rfl (hr2 x1 y1 w)
  · refine q_aload_n 0 eX11_lays_16 rfl rfl ?_
    refine q_getG (v := 32) eX11_lays_17 fl_11_115 tR_0 rfl gR_0_63 ?_
    refine q_sipush eX11_lays_20 ksipush_256 ?_
    refine q_iload_n 1 eX11_lays_23 rfl rfl ?_
    refine q_imul eX11_lays_24 ?_
    refine q_bipush eX11_lays_25 kbipush_16 ?_
    refine q_iload_n 2 eX11_lays_27 rfl rfl ?_
    refine q_imul eX11_lays_28 ?_
    refine q_iadd eX11_lays_29 ?_
    refine q_iload_n 3 eX11_lays_30 rfl rfl ?_
    refine q_iadd eX11_lays_31 ?_
    refine q_aload_n 0 eX11_lays_32 rfl rfl ?_
    refine q_bipush eX11_lays_33 kbipush_64 ?_
    refine q_iload_n 2 eX11_lays_35 rfl rfl ?_
    refine q_imul eX11_lays_36 ?_
    refine q_bipush eX11_lays_37 kbipush_32 ?_
    refine q_iadd eX11_lays_39 ?_
    refine q_bipush eX11_lays_40 kbipush_64 ?_
    refine q_iload_n 3 eX11_lays_42 rfl rfl ?_
    refine q_imul eX11_lays_43 ?_
    refine q_bipush eX11_lays_44 kbipush_32 ?_
    refine q_iadd eX11_lays_46 ?_
    refine q_iload_n 2 eX11_lays_47 rfl rfl ?_
    refine q_iconst eX11_lays_48 kiconst_2 ?_
    refine q_iremc eX11_lays_49 (by decide) ?_
    refine q_iconst eX11_lays_50 kiconst_1 ?_
    refine q_icmp_ne (tgt := 61) eX11_lays_51 (by decide) (fun _ => ?_) (fun _ => ?_)
    · refine q_aload_n 0 eX11_lays_54 rfl rfl ?_
      refine q_getI eX11_lays_55 fl_11_355 tR_0 rfl ?_
      refine q_goto (tgt := 62) eX11_lays_58 (by decide) ?_
      exact q_sub [0, 1, 2, 3] rfl (jX11_lays_n62 X l rec2 rec10 hr2 hr10 x1 x2 x3 (w.1 0 60) ((64 * x3) + 32) ((64 * x2) + 32) (((256 * x1) + (16 * x2)) + x3) w)
    · refine q_iconst eX11_lays_61 kiconst_0 ?_
      exact q_sub [0, 1, 2, 3] rfl (jX11_lays_n62 X l rec2 rec10 hr2 hr10 x1 x2 x3 0 ((64 * x3) + 32) ((64 * x2) + 32) (((256 * x1) + (16 * x2)) + x3) w)
set_option maxHeartbeats 4000000 in
set_option maxRecDepth 100000 in
theorem jX11_lays_l10 (X : q_X) (l : Launch) (rec2 : Int32 → Int32 → q_W → Option (Unit × q_W)) (hr2 : ∀ x1 x2 w, q_J X S_R l mX11_lays 5 q_tV 2 [(0, .ref 0), (1, .int x1), (2, .int x2)] [] w (rec2 x1 x2 w)) : ∀ x1 x2 x3 w, q_J X S_R l mX11_lays 5 q_tV 10 [(0, .ref 0), (1, .int x1), (2, .int x2), (3, .int x3)] [] w (fX11_lays_l10 rec2 x1 x2 x3 w) := by
  exact q_it_ind (fun rc => ∀ x1 x2 x3 w, q_J X S_R l mX11_lays 5 q_tV 10 [(0, .ref 0), (1, .int x1), (2, .int x2), (3, .int x3)] [] w (rc x1 x2 x3 w)) _ _ (fun _ _ _ _ => q_none) (fun rc hrc => jX11_lays_h10 X l rec2 hr2 rc hrc) q_N
def fX11_lays_h2 (rec2 : Int32 → Int32 → q_W → Option (Unit × q_W)) (x1 : Int32) (x2 : Int32) (w : q_W) : Option (Unit × q_W) :=
  if 16 ≤ x2 then
    some ((), w)
  else
    fX11_lays_l10 rec2 x1 x2 0 w
def fX11_lays_l2 : Int32 → Int32 → q_W → Option (Unit × q_W) := q_it q_N (fX11_lays_h2) (fun _ _ _ => none)
set_option maxHeartbeats 4000000 in
set_option maxRecDepth 100000 in
theorem jX11_lays_h2 (X : q_X) (l : Launch) (rec2 : Int32 → Int32 → q_W → Option (Unit × q_W)) (hr2 : ∀ x1 x2 w, q_J X S_R l mX11_lays 5 q_tV 2 [(0, .ref 0), (1, .int x1), (2, .int x2)] [] w (rec2 x1 x2 w)) : ∀ x1 x2 w, q_J X S_R l mX11_lays 5 q_tV 2 [(0, .ref 0), (1, .int x1), (2, .int x2)] [] w (fX11_lays_h2 rec2 x1 x2 w) := by
  intro x1 x2 w
  refine q_iload_n 2 eX11_lays_2 rfl rfl ?_
  refine q_bipush eX11_lays_3 kbipush_16 ?_
  refine q_icmp_ge (tgt := 79) eX11_lays_5 (by decide) (fun _ => ?_) (fun _ => ?_)
  · exact q_return eX11_lays_79 rfl
  · refine q_iconst eX11_lays_8 kiconst_0 ?_
    refine q_istore_n (lv' := [(3, .int 0), (0, .ref 0), (1, .int x1), (2, .int x2)]) eX11_lays_9 rfl (by decide) rfl ?_
    exact q_sub [1, 2, 3, 0] rfl (jX11_lays_l10 X l rec2 hr2 x1 x2 0 w)
set_option maxHeartbeats 4000000 in
set_option maxRecDepth 100000 in
theorem jX11_lays_l2 (X : q_X) (l : Launch) : ∀ x1 x2 w, q_J X S_R l mX11_lays 5 q_tV 2 [(0, .ref 0), (1, .int x1), (2, .int x2)] [] w (fX11_lays_l2 x1 x2 w) := by
  exact q_it_ind (fun rc => ∀ x1 x2 w, q_J X S_R l mX11_lays 5 q_tV 2 [(0, .ref 0), (1, .int x1), (2, .int x2)] [] w (rc x1 x2 w)) _ _ (fun _ _ _ => q_none) (fun rc hrc => jX11_lays_h2 X l rc hrc) q_N
def fX11_lays (a1 : Int32) (w : q_W) : Option (Unit × q_W) :=
  fX11_lays_l2 a1 0 w
set_option maxHeartbeats 4000000 in
set_option maxRecDepth 100000 in
theorem kX11_lays (X : q_X) (l : Launch) (a1 : Int32) (w : q_W) : q_Ct X S_R l mX11_lays 5 q_tV [.ref 0, .int a1] w (fX11_lays a1 w) := by
  refine q_intro (lv := [(0, .ref 0), (1, .int a1)]) (by decide +kernel) rfl (Nat.le_of_ble_eq_true rfl) rfl ?_
  refine q_iconst eX11_lays_0 kiconst_0 ?_
  refine q_istore_n (lv' := [(2, .int 0), (0, .ref 0), (1, .int a1)]) eX11_lays_1 rfl (by decide) rfl ?_
  exact q_sub [1, 2, 0] rfl (jX11_lays_l2 X l a1 0 w)
def fX11_isSheet (a1 : Int32) (a2 : Int32) (a3 : Int32) (w : q_W) : Option (Int32 × q_W) :=
  q_b (fX11_isKnown a2 w) fun r1 w2 =>
  if r1 = 0 then
    some (0, w2)
  else
    if a1 < 0 then
      some (0, w2)
    else
      q_b (fX11_floats a2 a1 w2) fun r3 w4 =>
      if r3 = 0 then
        some (0, w4)
      else
        q_b (fX11_lays a3 w4) fun r5 w6 =>
        some (1, w6)
set_option maxHeartbeats 4000000 in
set_option maxRecDepth 100000 in
theorem kX11_isSheet (X : q_X) (l : Launch) (a1 : Int32) (a2 : Int32) (a3 : Int32) (w : q_W) : q_Ct X S_R l mX11_isSheet 6 q_tI [.ref 0, .int a1, .int a2, .int a3] w (fX11_isSheet a1 a2 a3 w) := by
  refine q_intro (lv := [(0, .ref 0), (1, .int a1), (2, .int a2), (3, .int a3)]) (by decide +kernel) rfl (Nat.le_of_ble_eq_true rfl) rfl ?_
  refine q_aload_n 0 eX11_isSheet_0 rfl rfl ?_
  refine q_iload_n 2 eX11_isSheet_1 rfl rfl ?_
  refine q_callVI (As := [.int a2]) (st := []) eX11_isSheet_2 cv_11_345 (kX11_isKnown X l a2 w) tR_0 rfl (by decide) rfl rfl (Nat.le_of_ble_eq_true rfl) (by decide) (fun r1 w2 => ?_)
  refine q_if_eq (tgt := 21) eX11_isSheet_5 (by decide) (fun _ => ?_) (fun _ => ?_)
  · refine q_iconst eX11_isSheet_21 kiconst_0 ?_
    exact q_zret eX11_isSheet_22 rfl rfl
  · refine q_iload_n 1 eX11_isSheet_8 rfl rfl ?_
    refine q_if_lt (tgt := 21) eX11_isSheet_9 (by decide) (fun _ => ?_) (fun _ => ?_)
    · refine q_iconst eX11_isSheet_21 kiconst_0 ?_
      exact q_zret eX11_isSheet_22 rfl rfl
    · refine q_aload_n 0 eX11_isSheet_12 rfl rfl ?_
      refine q_iload_n 2 eX11_isSheet_13 rfl rfl ?_
      refine q_iload_n 1 eX11_isSheet_14 rfl rfl ?_
      refine q_callVI (As := [.int a2, .int a1]) (st := []) eX11_isSheet_15 cv_11_388 (kX11_floats X l a2 a1 w2) tR_0 rfl (by decide) rfl rfl (Nat.le_of_ble_eq_true rfl) (by decide) (fun r3 w4 => ?_)
      refine q_if_ne (tgt := 23) eX11_isSheet_18 (by decide) (fun _ => ?_) (fun _ => ?_)
      · refine q_iconst eX11_isSheet_21 kiconst_0 ?_
        exact q_zret eX11_isSheet_22 rfl rfl
      · refine q_aload_n 0 eX11_isSheet_23 rfl rfl ?_
        refine q_iload_n 3 eX11_isSheet_24 rfl rfl ?_
        refine q_callVV (As := [.int a3]) (st := []) eX11_isSheet_25 cv_11_400 (kX11_lays X l a3 w4) tR_0 rfl (by decide) rfl rfl (Nat.le_of_ble_eq_true rfl) (by decide) (fun r5 w6 => ?_)
        refine q_iconst eX11_isSheet_28 kiconst_1 ?_
        exact q_zret eX11_isSheet_29 rfl rfl
def fX11_sheets_n41 (rec14 : Int32 → Int32 → Int32 → q_W → Option (Int32 × q_W)) (x1 : Int32) (x2 : Int32) (x3 : Int32) (w : q_W) : Option (Int32 × q_W) :=
  q_lt (x3 + 1) fun y1 =>
  rec14 x1 x2 y1 w
set_option maxHeartbeats 4000000 in
set_option maxRecDepth 100000 in
theorem jX11_sheets_n41 (X : q_X) (l : Launch) (rec14 : Int32 → Int32 → Int32 → q_W → Option (Int32 × q_W)) (hr14 : ∀ x1 x2 x3 w, q_J X S_R l mX11_sheets 1 q_tI 14 [(0, .ref 0), (1, .int x1), (2, .int x2), (3, .int x3)] [] w (rec14 x1 x2 x3 w)) (x1 : Int32) (x2 : Int32) (x3 : Int32) (w : q_W) : q_J X S_R l mX11_sheets 1 q_tI 41 [(0, .ref 0), (1, .int x1), (2, .int x2), (3, .int x3)] [] w (fX11_sheets_n41 rec14 x1 x2 x3 w) := by
  refine q_ltE (fun y1 hy1 => ?_)
  refine q_iinc (v := y1) (lv' := [(3, .int y1), (0, .ref 0), (1, .int x1), (2, .int x2)]) 3 eX11_sheets_41 rfl hy1 (by decide) rfl ?_
  refine q_goto (tgt := 14) eX11_sheets_44 (by decide) ?_
  exact q_sub [1, 2, 3, 0] rfl (hr14 x1 x2 y1 w)
def fX11_sheets_h14 (rec14 : Int32 → Int32 → Int32 → q_W → Option (Int32 × q_W)) (x1 : Int32) (x2 : Int32) (x3 : Int32) (w : q_W) : Option (Int32 × q_W) :=
  if x1 ≤ x3 then
    some (x2, w)
  else
    if q_inb x3 120 then
    if (w.1 27 (q_ix x3)) = 4 then
      q_b (fX11_isStruck x3 x1 w) fun r1 w2 =>
      if r1 = 0 then
        q_lt (x2 + 1) fun y3 =>
        fX11_sheets_n41 rec14 x1 y3 x3 w2
      else
        fX11_sheets_n41 rec14 x1 x2 x3 w2
    else
      fX11_sheets_n41 rec14 x1 x2 x3 w
    else none
def fX11_sheets_l14 : Int32 → Int32 → Int32 → q_W → Option (Int32 × q_W) := q_it q_N (fX11_sheets_h14) (fun _ _ _ _ => none)
set_option maxHeartbeats 4000000 in
set_option maxRecDepth 100000 in
theorem jX11_sheets_h14 (X : q_X) (l : Launch) (rec14 : Int32 → Int32 → Int32 → q_W → Option (Int32 × q_W)) (hr14 : ∀ x1 x2 x3 w, q_J X S_R l mX11_sheets 1 q_tI 14 [(0, .ref 0), (1, .int x1), (2, .int x2), (3, .int x3)] [] w (rec14 x1 x2 x3 w)) : ∀ x1 x2 x3 w, q_J X S_R l mX11_sheets 1 q_tI 14 [(0, .ref 0), (1, .int x1), (2, .int x2), (3, .int x3)] [] w (fX11_sheets_h14 rec14 x1 x2 x3 w) := by
  intro x1 x2 x3 w
  refine q_iload_n 3 eX11_sheets_14 rfl rfl ?_
  refine q_iload_n 1 eX11_sheets_15 rfl rfl ?_
  refine q_icmp_ge (tgt := 47) eX11_sheets_16 (by decide) (fun _ => ?_) (fun _ => ?_)
  · refine q_iload_n 2 eX11_sheets_47 rfl rfl ?_
    exact q_ireturn eX11_sheets_48 rfl
  · refine q_aload_n 0 eX11_sheets_19 rfl rfl ?_
    refine q_getG (v := 27) eX11_sheets_20 fl_11_97 tR_0 rfl gR_0_51 ?_
    refine q_iload_n 3 eX11_sheets_23 rfl rfl ?_
    refine q_iald eX11_sheets_24 tR_27 nR_27 ?_
    refine q_iconst eX11_sheets_25 kiconst_4 ?_
    refine q_icmp_ne (tgt := 41) eX11_sheets_26 (by decide) (fun _ => ?_) (fun _ => ?_)
    · refine q_aload_n 0 eX11_sheets_29 rfl rfl ?_
      refine q_iload_n 3 eX11_sheets_30 rfl rfl ?_
      refine q_iload_n 1 eX11_sheets_31 rfl rfl ?_
      refine q_callVI (As := [.int x3, .int x1]) (st := []) eX11_sheets_32 cv_11_348 (kX11_isStruck X l x3 x1 w) tR_0 rfl (by decide) rfl rfl (Nat.le_of_ble_eq_true rfl) (by decide) (fun r1 w2 => ?_)
      refine q_if_ne (tgt := 41) eX11_sheets_35 (by decide) (fun _ => ?_) (fun _ => ?_)
      · refine q_ltE (fun y3 hy3 => ?_)
        refine q_iinc (v := y3) (lv' := [(2, .int y3), (0, .ref 0), (1, .int x1), (3, .int x3)]) 2 eX11_sheets_38 rfl hy3 (by decide) rfl ?_
        exact q_sub [1, 2, 0, 3] rfl (jX11_sheets_n41 X l rec14 hr14 x1 y3 x3 w2)
      · exact q_sub [0, 1, 2, 3] rfl (jX11_sheets_n41 X l rec14 hr14 x1 x2 x3 w2)
    · exact q_sub [0, 1, 2, 3] rfl (jX11_sheets_n41 X l rec14 hr14 x1 x2 x3 w)
set_option maxHeartbeats 4000000 in
set_option maxRecDepth 100000 in
theorem jX11_sheets_l14 (X : q_X) (l : Launch) : ∀ x1 x2 x3 w, q_J X S_R l mX11_sheets 1 q_tI 14 [(0, .ref 0), (1, .int x1), (2, .int x2), (3, .int x3)] [] w (fX11_sheets_l14 x1 x2 x3 w) := by
  exact q_it_ind (fun rc => ∀ x1 x2 x3 w, q_J X S_R l mX11_sheets 1 q_tI 14 [(0, .ref 0), (1, .int x1), (2, .int x2), (3, .int x3)] [] w (rc x1 x2 x3 w)) _ _ (fun _ _ _ _ => q_none) (fun rc hrc => jX11_sheets_h14 X l rc hrc) q_N
def fX11_sheets (a1 : Int32) (w : q_W) : Option (Int32 × q_W) :=
  q_b (fX11_isKnown a1 w) fun r1 w2 =>
  if r1 = 0 then
    some ((-1), w2)
  else
    fX11_sheets_l14 a1 0 0 w2
set_option maxHeartbeats 4000000 in
set_option maxRecDepth 100000 in
theorem kX11_sheets (X : q_X) (l : Launch) (a1 : Int32) (w : q_W) : q_Ct X S_R l mX11_sheets 1 q_tI [.ref 0, .int a1] w (fX11_sheets a1 w) := by
  refine q_intro (lv := [(0, .ref 0), (1, .int a1)]) (by decide +kernel) rfl (Nat.le_of_ble_eq_true rfl) rfl ?_
  refine q_aload_n 0 eX11_sheets_0 rfl rfl ?_
  refine q_iload_n 1 eX11_sheets_1 rfl rfl ?_
  refine q_callVI (As := [.int a1]) (st := []) eX11_sheets_2 cv_11_345 (kX11_isKnown X l a1 w) tR_0 rfl (by decide) rfl rfl (Nat.le_of_ble_eq_true rfl) (by decide) (fun r1 w2 => ?_)
  refine q_if_ne (tgt := 10) eX11_sheets_5 (by decide) (fun _ => ?_) (fun _ => ?_)
  · refine q_iconst eX11_sheets_8 kiconst_m1 ?_
    exact q_ireturn eX11_sheets_9 rfl
  · refine q_iconst eX11_sheets_10 kiconst_0 ?_
    refine q_istore_n (lv' := [(2, .int 0), (0, .ref 0), (1, .int a1)]) eX11_sheets_11 rfl (by decide) rfl ?_
    refine q_iconst eX11_sheets_12 kiconst_0 ?_
    refine q_istore_n (lv' := [(3, .int 0), (2, .int 0), (0, .ref 0), (1, .int a1)]) eX11_sheets_13 rfl (by decide) rfl ?_
    exact q_sub [2, 3, 1, 0] rfl (jX11_sheets_l14 X l a1 0 0 w2)
def fX11_cell (a1 : Int32) (a2 : Int32) (a3 : Int32) (a4 : Int32) (w : q_W) : Option (Int32 × q_W) :=
  q_b (fX11_in a2 0 15 w) fun r1 w2 =>
  if r1 = 0 then
    some ((-2), w2)
  else
    q_b (fX11_in a3 0 15 w2) fun r3 w4 =>
    if r3 = 0 then
      some ((-2), w4)
    else
      q_b (fX11_isSheet a1 a4 0 w4) fun r5 w6 =>
      if r5 = 0 then
        some ((-2), w6)
      else
        q_lt ((16 * a2) + a3) fun y7 =>
        if q_inb y7 512 then
        some ((w6.1 32 (q_ix y7)), w6)
        else none
set_option maxHeartbeats 4000000 in
set_option maxRecDepth 100000 in
theorem kX11_cell (X : q_X) (l : Launch) (a1 : Int32) (a2 : Int32) (a3 : Int32) (a4 : Int32) (w : q_W) : q_Ct X S_R l mX11_cell 7 q_tI [.ref 0, .int a1, .int a2, .int a3, .int a4] w (fX11_cell a1 a2 a3 a4 w) := by
  refine q_intro (lv := [(0, .ref 0), (1, .int a1), (2, .int a2), (3, .int a3), (4, .int a4)]) (by decide +kernel) rfl (Nat.le_of_ble_eq_true rfl) rfl ?_
  refine q_iload_n 2 eX11_cell_0 rfl rfl ?_
  refine q_iconst eX11_cell_1 kiconst_0 ?_
  refine q_bipush eX11_cell_2 kbipush_15 ?_
  refine q_callSI (As := [.int a2, .int 0, .int 15]) (st := []) eX11_cell_4 cv_11_316 (kX11_in X l a2 0 15 w) rfl rfl (Nat.le_of_ble_eq_true rfl) (by decide) (fun r1 w2 => ?_)
  refine q_if_eq (tgt := 31) eX11_cell_7 (by decide) (fun _ => ?_) (fun _ => ?_)
  · refine q_bipush eX11_cell_31 kbipush_m2 ?_
    exact q_ireturn eX11_cell_33 rfl
  · refine q_iload_n 3 eX11_cell_10 rfl rfl ?_
    refine q_iconst eX11_cell_11 kiconst_0 ?_
    refine q_bipush eX11_cell_12 kbipush_15 ?_
    refine q_callSI (As := [.int a3, .int 0, .int 15]) (st := []) eX11_cell_14 cv_11_316 (kX11_in X l a3 0 15 w2) rfl rfl (Nat.le_of_ble_eq_true rfl) (by decide) (fun r3 w4 => ?_)
    refine q_if_eq (tgt := 31) eX11_cell_17 (by decide) (fun _ => ?_) (fun _ => ?_)
    · refine q_bipush eX11_cell_31 kbipush_m2 ?_
      exact q_ireturn eX11_cell_33 rfl
    · refine q_aload_n 0 eX11_cell_20 rfl rfl ?_
      refine q_iload_n 1 eX11_cell_21 rfl rfl ?_
      refine q_iload 4 eX11_cell_22 rfl ?_
      refine q_iconst eX11_cell_24 kiconst_0 ?_
      refine q_callVI (As := [.int a1, .int a4, .int 0]) (st := []) eX11_cell_25 cv_11_403 (kX11_isSheet X l a1 a4 0 w4) tR_0 rfl (by decide) rfl rfl (Nat.le_of_ble_eq_true rfl) (by decide) (fun r5 w6 => ?_)
      refine q_if_ne (tgt := 34) eX11_cell_28 (by decide) (fun _ => ?_) (fun _ => ?_)
      · refine q_bipush eX11_cell_31 kbipush_m2 ?_
        exact q_ireturn eX11_cell_33 rfl
      · refine q_aload_n 0 eX11_cell_34 rfl rfl ?_
        refine q_getG (v := 32) eX11_cell_35 fl_11_115 tR_0 rfl gR_0_63 ?_
        refine q_bipush eX11_cell_38 kbipush_16 ?_
        refine q_iload_n 2 eX11_cell_40 rfl rfl ?_
        refine q_imul eX11_cell_41 ?_
        refine q_iload_n 3 eX11_cell_42 rfl rfl ?_
        refine q_iadd eX11_cell_43 ?_
        refine q_ltI (fun y7 => ?_)
        refine q_iald eX11_cell_44 tR_32 nR_32 ?_
        exact q_ireturn eX11_cell_45 rfl
def fX11_area_n50 (rec28 : Int32 → Int32 → Int32 → q_W → Option (Int32 × q_W)) (x2 : Int32) (x4 : Int32) (x5 : Int32) (w : q_W) : Option (Int32 × q_W) :=
  q_lt (x5 + 1) fun y1 =>
  rec28 x2 x4 y1 w
set_option maxHeartbeats 4000000 in
set_option maxRecDepth 100000 in
theorem jX11_area_n50 (X : q_X) (l : Launch) (rec28 : Int32 → Int32 → Int32 → q_W → Option (Int32 × q_W)) (hr28 : ∀ x2 x4 x5 w, q_J X S_R l mX11_area 7 q_tI 28 [(0, .ref 0), (2, .int x2), (4, .int x4), (5, .int x5)] [] w (rec28 x2 x4 x5 w)) (x2 : Int32) (x4 : Int32) (x5 : Int32) (w : q_W) : q_J X S_R l mX11_area 7 q_tI 50 [(0, .ref 0), (2, .int x2), (4, .int x4), (5, .int x5)] [] w (fX11_area_n50 rec28 x2 x4 x5 w) := by
  refine q_ltE (fun y1 hy1 => ?_)
  refine q_iinc (v := y1) (lv' := [(5, .int y1), (0, .ref 0), (2, .int x2), (4, .int x4)]) 3 eX11_area_50 rfl hy1 (by decide) rfl ?_
  refine q_goto (tgt := 28) eX11_area_53 (by decide) ?_
  exact q_sub [1, 2, 3, 0] rfl (hr28 x2 x4 y1 w)
def fX11_area_h28 (rec28 : Int32 → Int32 → Int32 → q_W → Option (Int32 × q_W)) (x2 : Int32) (x4 : Int32) (x5 : Int32) (w : q_W) : Option (Int32 × q_W) :=
  if 256 ≤ x5 then
    some (x4, w)
  else
    if q_inb x5 512 then
    if (w.1 32 (q_ix x5)) = x2 then
      q_lt (x4 + 1) fun y1 =>
      fX11_area_n50 rec28 x2 y1 x5 w
    else
      fX11_area_n50 rec28 x2 x4 x5 w
    else none
def fX11_area_l28 : Int32 → Int32 → Int32 → q_W → Option (Int32 × q_W) := q_it q_N (fX11_area_h28) (fun _ _ _ _ => none)
set_option maxHeartbeats 4000000 in
set_option maxRecDepth 100000 in
theorem jX11_area_h28 (X : q_X) (l : Launch) (rec28 : Int32 → Int32 → Int32 → q_W → Option (Int32 × q_W)) (hr28 : ∀ x2 x4 x5 w, q_J X S_R l mX11_area 7 q_tI 28 [(0, .ref 0), (2, .int x2), (4, .int x4), (5, .int x5)] [] w (rec28 x2 x4 x5 w)) : ∀ x2 x4 x5 w, q_J X S_R l mX11_area 7 q_tI 28 [(0, .ref 0), (2, .int x2), (4, .int x4), (5, .int x5)] [] w (fX11_area_h28 rec28 x2 x4 x5 w) := by
  intro x2 x4 x5 w
  refine q_iload 3 eX11_area_28 rfl ?_
  refine q_sipush eX11_area_30 ksipush_256 ?_
  refine q_icmp_ge (tgt := 56) eX11_area_33 (by decide) (fun _ => ?_) (fun _ => ?_)
  · refine q_iload 2 eX11_area_56 rfl ?_
    exact q_ireturn eX11_area_58 rfl
  · refine q_aload_n 0 eX11_area_36 rfl rfl ?_
    refine q_getG (v := 32) eX11_area_37 fl_11_115 tR_0 rfl gR_0_63 ?_
    refine q_iload 3 eX11_area_40 rfl ?_
    refine q_iald eX11_area_42 tR_32 nR_32 ?_
    refine q_iload_n 1 eX11_area_43 rfl rfl ?_
    refine q_icmp_ne (tgt := 50) eX11_area_44 (by decide) (fun _ => ?_) (fun _ => ?_)
    · refine q_ltE (fun y1 hy1 => ?_)
      refine q_iinc (v := y1) (lv' := [(4, .int y1), (0, .ref 0), (2, .int x2), (5, .int x5)]) 2 eX11_area_47 rfl hy1 (by decide) rfl ?_
      exact q_sub [1, 2, 0, 3] rfl (jX11_area_n50 X l rec28 hr28 x2 y1 x5 w)
    · exact q_sub [0, 1, 2, 3] rfl (jX11_area_n50 X l rec28 hr28 x2 x4 x5 w)
set_option maxHeartbeats 4000000 in
set_option maxRecDepth 100000 in
theorem jX11_area_l28 (X : q_X) (l : Launch) : ∀ x2 x4 x5 w, q_J X S_R l mX11_area 7 q_tI 28 [(0, .ref 0), (2, .int x2), (4, .int x4), (5, .int x5)] [] w (fX11_area_l28 x2 x4 x5 w) := by
  exact q_it_ind (fun rc => ∀ x2 x4 x5 w, q_J X S_R l mX11_area 7 q_tI 28 [(0, .ref 0), (2, .int x2), (4, .int x4), (5, .int x5)] [] w (rc x2 x4 x5 w)) _ _ (fun _ _ _ _ => q_none) (fun rc hrc => jX11_area_h28 X l rc hrc) q_N
def fX11_area (a1 : Int32) (a2 : Int32) (a3 : Int32) (w : q_W) : Option (Int32 × q_W) :=
  q_b (fX11_in a2 (-1) 7 w) fun r1 w2 =>
  if r1 = 0 then
    some ((-1), w2)
  else
    q_b (fX11_isSheet a1 a3 0 w2) fun r3 w4 =>
    if r3 = 0 then
      some ((-1), w4)
    else
      fX11_area_l28 a2 0 0 w4
set_option maxHeartbeats 4000000 in
set_option maxRecDepth 100000 in
theorem kX11_area (X : q_X) (l : Launch) (a1 : Int32) (a2 : Int32) (a3 : Int32) (w : q_W) : q_Ct X S_R l mX11_area 7 q_tI [.ref 0, .int a1, .int a2, .int a3] w (fX11_area a1 a2 a3 w) := by
  refine q_intro (lv := [(0, .ref 0), (1, .int a1), (2, .int a2), (3, .int a3)]) (by decide +kernel) rfl (Nat.le_of_ble_eq_true rfl) rfl ?_
  refine q_iload_n 2 eX11_area_0 rfl rfl ?_
  refine q_iconst eX11_area_1 kiconst_m1 ?_
  refine q_bipush eX11_area_2 kbipush_7 ?_
  refine q_callSI (As := [.int a2, .int (-1), .int 7]) (st := []) eX11_area_4 cv_11_316 (kX11_in X l a2 (-1) 7 w) rfl rfl (Nat.le_of_ble_eq_true rfl) (by decide) (fun r1 w2 => ?_)
  refine q_if_eq (tgt := 20) eX11_area_7 (by decide) (fun _ => ?_) (fun _ => ?_)
  · refine q_iconst eX11_area_20 kiconst_m1 ?_
    exact q_ireturn eX11_area_21 rfl
  · refine q_aload_n 0 eX11_area_10 rfl rfl ?_
    refine q_iload_n 1 eX11_area_11 rfl rfl ?_
    refine q_iload_n 3 eX11_area_12 rfl rfl ?_
    refine q_iconst eX11_area_13 kiconst_0 ?_
    refine q_callVI (As := [.int a1, .int a3, .int 0]) (st := []) eX11_area_14 cv_11_403 (kX11_isSheet X l a1 a3 0 w2) tR_0 rfl (by decide) rfl rfl (Nat.le_of_ble_eq_true rfl) (by decide) (fun r3 w4 => ?_)
    refine q_if_ne (tgt := 22) eX11_area_17 (by decide) (fun _ => ?_) (fun _ => ?_)
    · refine q_iconst eX11_area_20 kiconst_m1 ?_
      exact q_ireturn eX11_area_21 rfl
    · refine q_iconst eX11_area_22 kiconst_0 ?_
      refine q_istore (lv' := [(4, .int 0), (0, .ref 0), (1, .int a1), (2, .int a2), (3, .int a3)]) eX11_area_23 (by decide) rfl ?_
      refine q_iconst eX11_area_25 kiconst_0 ?_
      refine q_istore (lv' := [(5, .int 0), (4, .int 0), (0, .ref 0), (1, .int a1), (2, .int a2), (3, .int a3)]) eX11_area_26 (by decide) rfl ?_
      exact q_sub [2, 4, 1, 0] rfl (jX11_area_l28 X l a2 0 0 w4)
def fX11_meets (a1 : Int32) (a2 : Int32) (a3 : Int32) (w : q_W) : Option (Unit × q_W) :=
  q_b (fX11_in a2 0 15 w) fun r1 w2 =>
  if r1 = 0 then
    some ((), w2)
  else
    q_b (fX11_in a3 0 15 w2) fun r3 w4 =>
    if r3 = 0 then
      some ((), w4)
    else
      q_lt ((16 * a2) + a3) fun y5 =>
      if q_inb y5 256 then
      if (w4.1 33 (q_ix y5)) = 0 then
        q_lt ((16 * a2) + a3) fun y6 =>
        if q_inb y6 512 then
        if (w4.1 32 (q_ix y6)) = a1 then
          q_lt ((16 * a2) + a3) fun y7 =>
          if q_inb y7 256 then
          q_lt (q_sI w4 33 (q_ix y7) (vp_nar .boolean 1)) fun w8 =>
          q_lt (w8.1 0 68) fun y9 =>
          if q_inb y9 256 then
          q_lt (q_sI w8 34 (q_ix y9) ((16 * a2) + a3)) fun w10 =>
          q_lt (q_sI w10 0 68 ((w10.1 0 68) + 1)) fun w11 =>
          some ((), w11)
          else none
          else none
        else
          some ((), w4)
        else none
      else
        some ((), w4)
      else none
set_option maxHeartbeats 4000000 in
set_option maxRecDepth 100000 in
theorem kX11_meets (X : q_X) (l : Launch) (a1 : Int32) (a2 : Int32) (a3 : Int32) (w : q_W) : q_Ct X S_R l mX11_meets 1 q_tV [.ref 0, .int a1, .int a2, .int a3] w (fX11_meets a1 a2 a3 w) := by
  refine q_intro (lv := [(0, .ref 0), (1, .int a1), (2, .int a2), (3, .int a3)]) (by decide +kernel) rfl (Nat.le_of_ble_eq_true rfl) rfl ?_
  refine q_iload_n 2 eX11_meets_0 rfl rfl ?_
  refine q_iconst eX11_meets_1 kiconst_0 ?_
  refine q_bipush eX11_meets_2 kbipush_15 ?_
  refine q_callSI (As := [.int a2, .int 0, .int 15]) (st := []) eX11_meets_4 cv_11_316 (kX11_in X l a2 0 15 w) rfl rfl (Nat.le_of_ble_eq_true rfl) (by decide) (fun r1 w2 => ?_)
  refine q_if_eq (tgt := 49) eX11_meets_7 (by decide) (fun _ => ?_) (fun _ => ?_)
  · exact q_return eX11_meets_49 rfl
  · refine q_iload_n 3 eX11_meets_10 rfl rfl ?_
    refine q_iconst eX11_meets_11 kiconst_0 ?_
    refine q_bipush eX11_meets_12 kbipush_15 ?_
    refine q_callSI (As := [.int a3, .int 0, .int 15]) (st := []) eX11_meets_14 cv_11_316 (kX11_in X l a3 0 15 w2) rfl rfl (Nat.le_of_ble_eq_true rfl) (by decide) (fun r3 w4 => ?_)
    refine q_if_eq (tgt := 49) eX11_meets_17 (by decide) (fun _ => ?_) (fun _ => ?_)
    · exact q_return eX11_meets_49 rfl
    · refine q_aload_n 0 eX11_meets_20 rfl rfl ?_
      refine q_getG (v := 33) eX11_meets_21 fl_11_118 tR_0 rfl gR_0_66 ?_
      refine q_bipush eX11_meets_24 kbipush_16 ?_
      refine q_iload_n 2 eX11_meets_26 rfl rfl ?_
      refine q_imul eX11_meets_27 ?_
      refine q_iload_n 3 eX11_meets_28 rfl rfl ?_
      refine q_iadd eX11_meets_29 ?_
      refine q_ltI (fun y5 => ?_)
      refine q_zald eX11_meets_30 tR_33 nR_33 ?_
      refine q_if_ne (tgt := 49) eX11_meets_31 (by decide) (fun _ => ?_) (fun _ => ?_)
      · refine q_aload_n 0 eX11_meets_34 rfl rfl ?_
        refine q_getG (v := 32) eX11_meets_35 fl_11_115 tR_0 rfl gR_0_63 ?_
        refine q_bipush eX11_meets_38 kbipush_16 ?_
        refine q_iload_n 2 eX11_meets_40 rfl rfl ?_
        refine q_imul eX11_meets_41 ?_
        refine q_iload_n 3 eX11_meets_42 rfl rfl ?_
        refine q_iadd eX11_meets_43 ?_
        refine q_ltI (fun y6 => ?_)
        refine q_iald eX11_meets_44 tR_32 nR_32 ?_
        refine q_iload_n 1 eX11_meets_45 rfl rfl ?_
        refine q_icmp_eq (tgt := 50) eX11_meets_46 (by decide) (fun _ => ?_) (fun _ => ?_)
        · refine q_aload_n 0 eX11_meets_50 rfl rfl ?_
          refine q_getG (v := 33) eX11_meets_51 fl_11_118 tR_0 rfl gR_0_66 ?_
          refine q_bipush eX11_meets_54 kbipush_16 ?_
          refine q_iload_n 2 eX11_meets_56 rfl rfl ?_
          refine q_imul eX11_meets_57 ?_
          refine q_iload_n 3 eX11_meets_58 rfl rfl ?_
          refine q_iadd eX11_meets_59 ?_
          refine q_iconst eX11_meets_60 kiconst_1 ?_
          refine q_ltI1 (fun y7 => ?_)
          refine q_zast eX11_meets_61 tR_33 nR_33 ?_
          refine q_ltW (fun w8 => ?_)
          refine q_aload_n 0 eX11_meets_62 rfl rfl ?_
          refine q_getG (v := 34) eX11_meets_63 fl_11_122 tR_0 rfl gR_0_67 ?_
          refine q_aload_n 0 eX11_meets_66 rfl rfl ?_
          refine q_getI eX11_meets_67 fl_11_406 tR_0 rfl ?_
          refine q_bipush eX11_meets_70 kbipush_16 ?_
          refine q_iload_n 2 eX11_meets_72 rfl rfl ?_
          refine q_imul eX11_meets_73 ?_
          refine q_iload_n 3 eX11_meets_74 rfl rfl ?_
          refine q_iadd eX11_meets_75 ?_
          refine q_ltI1 (fun y9 => ?_)
          refine q_iast eX11_meets_76 tR_34 nR_34 ?_
          refine q_ltW (fun w10 => ?_)
          refine q_aload_n 0 eX11_meets_77 rfl rfl ?_
          refine q_dup eX11_meets_78 rfl ?_
          refine q_getI eX11_meets_79 fl_11_406 tR_0 rfl ?_
          refine q_iconst eX11_meets_82 kiconst_1 ?_
          refine q_iadd eX11_meets_83 ?_
          refine q_putI eX11_meets_84 fp_11_406 tR_0 rfl ⟨rfl, rfl⟩ ?_
          refine q_ltW (fun w11 => ?_)
          exact q_return eX11_meets_87 rfl
        · exact q_return eX11_meets_49 rfl
      · exact q_return eX11_meets_49 rfl
