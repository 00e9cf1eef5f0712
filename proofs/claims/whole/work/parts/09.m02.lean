/-! methods, printed by program: X1_valueOf X1_step X1_perform X1_deedPlace X1_deedsDone X2_facts X6_size X2_size X6_roomLeft X2_roomLeft X2_has X2_knows X2_tell X2_tellStrike X6_addAll X2_tellAll X2_markOut X2_findOut X2_isOut X2_laysKnown X6_isStroke X2_pickStrokes X3_bestMade X3_bestOff X3_foundLength X3_foundAt X3_pickAll X8_pointX X8_pointY X8_unlikeUpTo X3_compare X4_size X6_allow X6_clear X3_seekBest -/
def fX1_valueOf (a1 : Int32) (w : q_W) : Option (Int32 × q_W) :=
  q_lt (((w.1 31 9) * 8) + a1) fun y1 =>
  if y1 < 0 then
    some (0, w)
  else
    if 64 ≤ y1 then
      some (0, w)
    else
      if q_inb y1 64 then
      some ((w.1 33 (q_ix y1)), w)
      else none
set_option maxHeartbeats 4000000 in
set_option maxRecDepth 100000 in
theorem kX1_valueOf (X : q_X) (l : Launch) (a1 : Int32) (w : q_W) : q_Ct X S_C l mX1_valueOf 0 q_tI [.ref 31, .int a1] w (fX1_valueOf a1 w) := by
  refine q_intro (lv := [(0, .ref 31), (1, .int a1)]) (by decide +kernel) rfl (Nat.le_of_ble_eq_true rfl) rfl ?_
  refine q_aload_n 0 eX1_valueOf_0 rfl rfl ?_
  refine q_getI eX1_valueOf_1 fl_1_48 tC_31 rfl ?_
  refine q_bipush eX1_valueOf_4 kbipush_8 ?_
  refine q_imul eX1_valueOf_6 ?_
  refine q_iload_n 1 eX1_valueOf_7 rfl rfl ?_
  refine q_iadd eX1_valueOf_8 ?_
  refine q_ltI (fun y1 => ?_)
  refine q_istore_n (lv' := [(2, .int y1), (0, .ref 31), (1, .int a1)]) eX1_valueOf_9 rfl (by decide) rfl ?_
  refine q_iload_n 0 eX1_valueOf_10 rfl rfl ?_
  refine q_if_lt (tgt := 32) eX1_valueOf_11 (by decide) (fun _ => ?_) (fun _ => ?_)
  · refine q_iconst eX1_valueOf_32 kiconst_0 ?_
    exact q_ireturn eX1_valueOf_33 rfl
  · refine q_iload_n 0 eX1_valueOf_14 rfl rfl ?_
    refine q_aload_n 1 eX1_valueOf_15 rfl rfl ?_
    refine q_getG (v := 33) eX1_valueOf_16 fl_1_15 tC_31 rfl gC_31_1 ?_
    refine q_alen eX1_valueOf_19 tC_33 nC_33 ?_
    refine q_icmp_ge (tgt := 32) eX1_valueOf_20 (by decide) (fun _ => ?_) (fun _ => ?_)
    · refine q_iconst eX1_valueOf_32 kiconst_0 ?_
      exact q_ireturn eX1_valueOf_33 rfl
    · refine q_aload_n 1 eX1_valueOf_23 rfl rfl ?_
      refine q_getG (v := 33) eX1_valueOf_24 fl_1_15 tC_31 rfl gC_31_1 ?_
      refine q_iload_n 0 eX1_valueOf_27 rfl rfl ?_
      refine q_iald eX1_valueOf_28 tC_33 nC_33 ?_
      refine q_goto (tgt := 33) eX1_valueOf_29 (by decide) ?_
      exact q_ireturn eX1_valueOf_33 rfl
def fX1_step_n219 (x1 : Int32) (w : q_W) : Option (Unit × q_W) :=
  q_b (fX1_turn x1 w) fun r1 w2 =>
  some ((), w2)
set_option maxHeartbeats 4000000 in
set_option maxRecDepth 100000 in
theorem jX1_step_n219 (X : q_X) (l : Launch) (x1 : Int32) (w : q_W) : q_J X S_C l mX1_step 3 q_tV 219 [(0, .ref 31), (1, .int x1)] [] w (fX1_step_n219 x1 w) := by
  refine q_aload_n 0 eX1_step_219 rfl rfl ?_
  refine q_iload_n 1 eX1_step_220 rfl rfl ?_
  refine q_callVV (As := [.int x1]) (st := []) eX1_step_221 cv_1_106 (kX1_turn X l x1 w) tC_31 rfl (by decide) rfl rfl (Nat.le_of_ble_eq_true rfl) (by decide) (fun r1 w2 => ?_)
  exact q_return eX1_step_224 rfl
def fX1_step_n190 (x1 : Int32) (w : q_W) : Option (Unit × q_W) :=
  if x1 < 5 then
    fX1_step_n219 x1 w
  else
    if 13 < x1 then
      fX1_step_n219 x1 w
    else
      q_b (fX1_pop w) fun r1 w2 =>
      q_b (fX1_pop w2) fun r3 w4 =>
      q_b (fX1_combine x1 r3 r1 w4) fun r5 w6 =>
      some ((), w6)
set_option maxHeartbeats 4000000 in
set_option maxRecDepth 100000 in
theorem jX1_step_n190 (X : q_X) (l : Launch) (x1 : Int32) (w : q_W) : q_J X S_C l mX1_step 3 q_tV 190 [(0, .ref 31), (1, .int x1)] [] w (fX1_step_n190 x1 w) := by
  refine q_iload_n 1 eX1_step_190 rfl rfl ?_
  refine q_iconst eX1_step_191 kiconst_5 ?_
  refine q_icmp_lt (tgt := 219) eX1_step_192 (by decide) (fun _ => ?_) (fun _ => ?_)
  · exact q_sub [0, 1] rfl (jX1_step_n219 X l x1 w)
  · refine q_iload_n 1 eX1_step_195 rfl rfl ?_
    refine q_bipush eX1_step_196 kbipush_13 ?_
    refine q_icmp_gt (tgt := 219) eX1_step_198 (by decide) (fun _ => ?_) (fun _ => ?_)
    · exact q_sub [0, 1] rfl (jX1_step_n219 X l x1 w)
    · refine q_aload_n 0 eX1_step_201 rfl rfl ?_
      refine q_callVI (As := []) (st := []) eX1_step_202 cv_1_90 (kX1_pop X l w) tC_31 rfl (by decide) rfl rfl (Nat.le_of_ble_eq_true rfl) (by decide) (fun r1 w2 => ?_)
      refine q_istore_n (lv' := [(2, .int r1), (0, .ref 31), (1, .int x1)]) eX1_step_205 rfl (by decide) rfl ?_
      refine q_aload_n 1 eX1_step_206 rfl rfl ?_
      refine q_iload_n 2 eX1_step_207 rfl rfl ?_
      refine q_aload_n 1 eX1_step_208 rfl rfl ?_
      refine q_callVI (As := []) (st := [.int x1, .ref 31]) eX1_step_209 cv_1_90 (kX1_pop X l w2) tC_31 rfl (by decide) rfl rfl (Nat.le_of_ble_eq_true rfl) (by decide) (fun r3 w4 => ?_)
      refine q_iload_n 0 eX1_step_212 rfl rfl ?_
      refine q_callVV (As := [.int x1, .int r3, .int r1]) (st := []) eX1_step_213 cv_1_102 (kX1_combine X l x1 r3 r1 w4) tC_31 rfl (by decide) rfl rfl (Nat.le_of_ble_eq_true rfl) (by decide) (fun r5 w6 => ?_)
      refine q_goto (tgt := 224) eX1_step_216 (by decide) ?_
      exact q_return eX1_step_224 rfl
def fX1_step_n112 (w : q_W) : Option (Unit × q_W) :=
  q_b (fX1_nextWord w) fun r1 w2 =>
  q_b (fX1_startDeed r1 w2) fun r3 w4 =>
  some ((), w4)
set_option maxHeartbeats 4000000 in
set_option maxRecDepth 100000 in
theorem jX1_step_n112 (X : q_X) (l : Launch) (w : q_W) : q_J X S_C l mX1_step 3 q_tV 112 [(0, .ref 31)] [] w (fX1_step_n112 w) := by
  refine q_aload_n 0 eX1_step_112 rfl rfl ?_
  refine q_aload_n 0 eX1_step_113 rfl rfl ?_
  refine q_callVI (As := []) (st := [.ref 31]) eX1_step_114 cv_1_76 (kX1_nextWord X l w) tC_31 rfl (by decide) rfl rfl (Nat.le_of_ble_eq_true rfl) (by decide) (fun r1 w2 => ?_)
  refine q_callVV (As := [.int r1]) (st := []) eX1_step_117 cv_1_80 (kX1_startDeed X l r1 w2) tC_31 rfl (by decide) rfl rfl (Nat.le_of_ble_eq_true rfl) (by decide) (fun r3 w4 => ?_)
  refine q_goto (tgt := 224) eX1_step_120 (by decide) ?_
  exact q_return eX1_step_224 rfl
def fX1_step (w : q_W) : Option (Unit × q_W) :=
  q_b (fX1_nextWord w) fun r1 w2 =>
  if r1 = 0 then
    q_b (fX1_leave w2) fun r4 w5 =>
    some ((), w5)
  else if r1 = 1 then
    fX1_step_n112 w2
  else if r1 = 2 then
    q_b (fX1_nextWord w2) fun r8 w9 =>
    q_b (fX1_push r8 w9) fun r10 w11 =>
    some ((), w11)
  else if r1 = 3 then
    q_b (fX1_nextWord w2) fun r13 w14 =>
    q_b (fX1_valueOf r13 w14) fun r15 w16 =>
    q_b (fX1_push r15 w16) fun r17 w18 =>
    some ((), w18)
  else if r1 = 4 then
    q_b (fX1_pop w2) fun r20 w21 =>
    q_b (fX1_push (0 - r20) w21) fun r22 w23 =>
    some ((), w23)
  else if r1 = 19 then
    fX1_step_n112 w2
  else if r1 = 21 then
    q_b (fX1_nextWord w2) fun r26 w27 =>
    q_b (fX1_stroke r26 w27) fun r28 w29 =>
    some ((), w29)
  else if r1 = 22 then
    q_b (fX1_nextWord w2) fun r31 w32 =>
    q_b (fX1_enter r31 w32) fun r33 w34 =>
    some ((), w34)
  else fX1_step_n190 r1 w2
set_option maxHeartbeats 4000000 in
set_option maxRecDepth 100000 in
theorem kX1_step (X : q_X) (l : Launch) (w : q_W) : q_Ct X S_C l mX1_step 3 q_tV [.ref 31] w (fX1_step w) := by
  refine q_intro (lv := [(0, .ref 31)]) (by decide +kernel) rfl (Nat.le_of_ble_eq_true rfl) rfl ?_
  refine q_aload_n 0 eX1_step_0 rfl rfl ?_
  refine q_callVI (As := []) (st := []) eX1_step_1 cv_1_76 (kX1_nextWord X l w) tC_31 rfl (by decide) rfl rfl (Nat.le_of_ble_eq_true rfl) (by decide) (fun r1 w2 => ?_)
  refine q_istore_n (lv' := [(1, .int r1), (0, .ref 31)]) eX1_step_4 rfl (by decide) rfl ?_
  refine q_iload_n 0 eX1_step_5 rfl rfl ?_
  refine q_ite (fun c3 => ?_) (fun c3 => ?_)
  · refine q_tabIn (off := 177) (tgt := 183) eX1_step_6 (by rw [c3]; decide) (by rw [c3]; decide) (by rw [c3]; rfl) (by decide) ?_
    refine q_aload_n 1 eX1_step_183 rfl rfl ?_
    refine q_callVV (As := []) (st := []) eX1_step_184 cv_1_99 (kX1_leave X l w2) tC_31 rfl (by decide) rfl rfl (Nat.le_of_ble_eq_true rfl) (by decide) (fun r4 w5 => ?_)
    refine q_goto (tgt := 224) eX1_step_187 (by decide) ?_
    exact q_return eX1_step_224 rfl
  refine q_ite (fun c6 => ?_) (fun c6 => ?_)
  · refine q_tabIn (off := 106) (tgt := 112) eX1_step_6 (by rw [c6]; decide) (by rw [c6]; decide) (by rw [c6]; rfl) (by decide) ?_
    exact q_sub [1] rfl (jX1_step_n112 X l w2)
  refine q_ite (fun c7 => ?_) (fun c7 => ?_)
  · refine q_tabIn (off := 117) (tgt := 123) eX1_step_6 (by rw [c7]; decide) (by rw [c7]; decide) (by rw [c7]; rfl) (by decide) ?_
    refine q_aload_n 1 eX1_step_123 rfl rfl ?_
    refine q_aload_n 1 eX1_step_124 rfl rfl ?_
    refine q_callVI (As := []) (st := [.ref 31]) eX1_step_125 cv_1_76 (kX1_nextWord X l w2) tC_31 rfl (by decide) rfl rfl (Nat.le_of_ble_eq_true rfl) (by decide) (fun r8 w9 => ?_)
    refine q_callVV (As := [.int r8]) (st := []) eX1_step_128 cv_1_84 (kX1_push X l r8 w9) tC_31 rfl (by decide) rfl rfl (Nat.le_of_ble_eq_true rfl) (by decide) (fun r10 w11 => ?_)
    refine q_goto (tgt := 224) eX1_step_131 (by decide) ?_
    exact q_return eX1_step_224 rfl
  refine q_ite (fun c12 => ?_) (fun c12 => ?_)
  · refine q_tabIn (off := 128) (tgt := 134) eX1_step_6 (by rw [c12]; decide) (by rw [c12]; decide) (by rw [c12]; rfl) (by decide) ?_
    refine q_aload_n 1 eX1_step_134 rfl rfl ?_
    refine q_aload_n 1 eX1_step_135 rfl rfl ?_
    refine q_aload_n 1 eX1_step_136 rfl rfl ?_
    refine q_callVI (As := []) (st := [.ref 31, .ref 31]) eX1_step_137 cv_1_76 (kX1_nextWord X l w2) tC_31 rfl (by decide) rfl rfl (Nat.le_of_ble_eq_true rfl) (by decide) (fun r13 w14 => ?_)
    refine q_callVI (As := [.int r13]) (st := [.ref 31]) eX1_step_140 cv_1_87 (kX1_valueOf X l r13 w14) tC_31 rfl (by decide) rfl rfl (Nat.le_of_ble_eq_true rfl) (by decide) (fun r15 w16 => ?_)
    refine q_callVV (As := [.int r15]) (st := []) eX1_step_143 cv_1_84 (kX1_push X l r15 w16) tC_31 rfl (by decide) rfl rfl (Nat.le_of_ble_eq_true rfl) (by decide) (fun r17 w18 => ?_)
    refine q_goto (tgt := 224) eX1_step_146 (by decide) ?_
    exact q_return eX1_step_224 rfl
  refine q_ite (fun c19 => ?_) (fun c19 => ?_)
  · refine q_tabIn (off := 143) (tgt := 149) eX1_step_6 (by rw [c19]; decide) (by rw [c19]; decide) (by rw [c19]; rfl) (by decide) ?_
    refine q_aload_n 1 eX1_step_149 rfl rfl ?_
    refine q_aload_n 1 eX1_step_150 rfl rfl ?_
    refine q_callVI (As := []) (st := [.ref 31]) eX1_step_151 cv_1_90 (kX1_pop X l w2) tC_31 rfl (by decide) rfl rfl (Nat.le_of_ble_eq_true rfl) (by decide) (fun r20 w21 => ?_)
    refine q_ineg eX1_step_154 ?_
    refine q_callVV (As := [.int (0 - r20)]) (st := []) eX1_step_155 cv_1_84 (kX1_push X l (0 - r20) w21) tC_31 rfl (by decide) rfl rfl (Nat.le_of_ble_eq_true rfl) (by decide) (fun r22 w23 => ?_)
    refine q_goto (tgt := 224) eX1_step_158 (by decide) ?_
    exact q_return eX1_step_224 rfl
  refine q_ite (fun c24 => ?_) (fun c24 => ?_)
  · refine q_tabIn (off := 106) (tgt := 112) eX1_step_6 (by rw [c24]; decide) (by rw [c24]; decide) (by rw [c24]; rfl) (by decide) ?_
    exact q_sub [1] rfl (jX1_step_n112 X l w2)
  refine q_ite (fun c25 => ?_) (fun c25 => ?_)
  · refine q_tabIn (off := 155) (tgt := 161) eX1_step_6 (by rw [c25]; decide) (by rw [c25]; decide) (by rw [c25]; rfl) (by decide) ?_
    refine q_aload_n 1 eX1_step_161 rfl rfl ?_
    refine q_aload_n 1 eX1_step_162 rfl rfl ?_
    refine q_callVI (As := []) (st := [.ref 31]) eX1_step_163 cv_1_76 (kX1_nextWord X l w2) tC_31 rfl (by decide) rfl rfl (Nat.le_of_ble_eq_true rfl) (by decide) (fun r26 w27 => ?_)
    refine q_callVV (As := [.int r26]) (st := []) eX1_step_166 cv_1_93 (kX1_stroke X l r26 w27) tC_31 rfl (by decide) rfl rfl (Nat.le_of_ble_eq_true rfl) (by decide) (fun r28 w29 => ?_)
    refine q_goto (tgt := 224) eX1_step_169 (by decide) ?_
    exact q_return eX1_step_224 rfl
  refine q_ite (fun c30 => ?_) (fun c30 => ?_)
  · refine q_tabIn (off := 166) (tgt := 172) eX1_step_6 (by rw [c30]; decide) (by rw [c30]; decide) (by rw [c30]; rfl) (by decide) ?_
    refine q_aload_n 1 eX1_step_172 rfl rfl ?_
    refine q_aload_n 1 eX1_step_173 rfl rfl ?_
    refine q_callVI (As := []) (st := [.ref 31]) eX1_step_174 cv_1_76 (kX1_nextWord X l w2) tC_31 rfl (by decide) rfl rfl (Nat.le_of_ble_eq_true rfl) (by decide) (fun r31 w32 => ?_)
    refine q_callVV (As := [.int r31]) (st := []) eX1_step_177 cv_1_96 (kX1_enter X l r31 w32) tC_31 rfl (by decide) rfl rfl (Nat.le_of_ble_eq_true rfl) (by decide) (fun r33 w34 => ?_)
    refine q_goto (tgt := 224) eX1_step_180 (by decide) ?_
    exact q_return eX1_step_224 rfl
  refine q_tabD (x := r1) (tgt := 190) eX1_step_6 (by intro z1 z2; have zc3 := lv_neT (a := 0) c3 rfl; have zc6 := lv_neT (a := 1) c6 rfl; have zc7 := lv_neT (a := 2) c7 rfl; have zc12 := lv_neT (a := 3) c12 rfl; have zc19 := lv_neT (a := 4) c19 rfl; have zc24 := lv_neT (a := 19) c24 rfl; have zc25 := lv_neT (a := 21) c25 rfl; have zc30 := lv_neT (a := 22) c30 rfl; have zz : Int32.toInt r1 = 5 ∨ Int32.toInt r1 = 6 ∨ Int32.toInt r1 = 7 ∨ Int32.toInt r1 = 8 ∨ Int32.toInt r1 = 9 ∨ Int32.toInt r1 = 10 ∨ Int32.toInt r1 = 11 ∨ Int32.toInt r1 = 12 ∨ Int32.toInt r1 = 13 ∨ Int32.toInt r1 = 14 ∨ Int32.toInt r1 = 15 ∨ Int32.toInt r1 = 16 ∨ Int32.toInt r1 = 17 ∨ Int32.toInt r1 = 18 ∨ Int32.toInt r1 = 20 := (by omega); rcases zz with z | z | z | z | z | z | z | z | z | z | z | z | z | z | z <;> (rw [z]; rfl)) (by decide) ?_
  exact q_sub [1, 0] rfl (jX1_step_n190 X l r1 w2)
def fX1_perform_h73 (q1 : Nat) (q5 : Nat) (rec73 : Int32 → q_W → Option (Int32 × q_W)) (x6 : Int32) (w : q_W) : Option (Int32 × q_W) :=
  if 10000000 ≤ x6 then
    some ((w.1 31 12), w)
  else
    if (w.1 31 13) = 0 then
      q_b (fX1_step w) fun r1 w2 =>
      q_lt (x6 + 1) fun y3 =>
      rec73 y3 w2
    else
      some ((w.1 31 12), w)
def fX1_perform_l73 (q1 : Nat) (q5 : Nat) : Int32 → q_W → Option (Int32 × q_W) := q_it q_N (fX1_perform_h73 q1 q5) (fun _ _ => none)
set_option maxHeartbeats 4000000 in
set_option maxRecDepth 100000 in
theorem jX1_perform_h73 (X : q_X) (l : Launch) (q1 : Nat) (q5 : Nat) (h1 : cC q1 = 4) (h5 : cC q5 = 6) (rec73 : Int32 → q_W → Option (Int32 × q_W)) (hr73 : ∀ x6 w, q_J X S_C l mX1_perform 4 q_tI 73 [(0, .ref 31), (6, .int x6)] [] w (rec73 x6 w)) : ∀ x6 w, q_J X S_C l mX1_perform 4 q_tI 73 [(0, .ref 31), (6, .int x6)] [] w (fX1_perform_h73 q1 q5 rec73 x6 w) := by
  intro x6 w
  refine q_iload 1 eX1_perform_73 rfl ?_
  refine q_ldc eX1_perform_75 kc_1_69 ?_
  refine q_icmp_ge (tgt := 97) eX1_perform_77 (by decide) (fun _ => ?_) (fun _ => ?_)
  · refine q_aload_n 0 eX1_perform_97 rfl rfl ?_
    refine q_getI eX1_perform_98 fl_1_54 tC_31 rfl ?_
    exact q_ireturn eX1_perform_101 rfl
  · refine q_aload_n 0 eX1_perform_80 rfl rfl ?_
    refine q_getI eX1_perform_81 fl_1_61 tC_31 rfl ?_
    refine q_if_ne (tgt := 97) eX1_perform_84 (by decide) (fun _ => ?_) (fun _ => ?_)
    · refine q_aload_n 0 eX1_perform_87 rfl rfl ?_
      refine q_callVV (As := []) (st := []) eX1_perform_88 cv_1_70 (kX1_step X l w) tC_31 rfl (by decide) rfl rfl (Nat.le_of_ble_eq_true rfl) (by decide) (fun r1 w2 => ?_)
      refine q_ltE (fun y3 hy3 => ?_)
      refine q_iinc (v := y3) (lv' := [(6, .int y3), (0, .ref 31)]) 1 eX1_perform_91 rfl hy3 (by decide) rfl ?_
      refine q_goto (tgt := 73) eX1_perform_94 (by decide) ?_
      exact q_sub [1, 0] rfl (hr73 y3 w2)
    · refine q_aload_n 0 eX1_perform_97 rfl rfl ?_
      refine q_getI eX1_perform_98 fl_1_54 tC_31 rfl ?_
      exact q_ireturn eX1_perform_101 rfl
set_option maxHeartbeats 4000000 in
set_option maxRecDepth 100000 in
theorem jX1_perform_l73 (X : q_X) (l : Launch) (q1 : Nat) (q5 : Nat) (h1 : cC q1 = 4) (h5 : cC q5 = 6) : ∀ x6 w, q_J X S_C l mX1_perform 4 q_tI 73 [(0, .ref 31), (6, .int x6)] [] w (fX1_perform_l73 q1 q5 x6 w) := by
  exact q_it_ind (fun rc => ∀ x6 w, q_J X S_C l mX1_perform 4 q_tI 73 [(0, .ref 31), (6, .int x6)] [] w (rc x6 w)) _ _ (fun _ _ => q_none) (fun rc hrc => jX1_perform_h73 X l q1 q5 h1 h5 rc hrc) q_N
def fX1_perform_n54 (q1 : Nat) (q5 : Nat) (x3 : Int32) (x4 : Int32) (s0 : Int32) (w : q_W) : Option (Int32 × q_W) :=
  if s0 = 0 ∨ s0 = 1 then
  q_lt (q_sI w 31 13 s0) fun w1 =>
  q_b (fX1_setValue 0 x3 w1) fun r3 w4 =>
  q_b (fX1_setValue 1 x4 w4) fun r5 w6 =>
  fX1_perform_l73 q1 q5 0 w6
  else none
set_option maxHeartbeats 4000000 in
set_option maxRecDepth 100000 in
theorem jX1_perform_n54 (X : q_X) (l : Launch) (q1 : Nat) (q5 : Nat) (h1 : cC q1 = 4) (h5 : cC q5 = 6) (x3 : Int32) (x4 : Int32) (s0 : Int32) (w : q_W) : q_J X S_C l mX1_perform 4 q_tI 54 [(0, .ref 31), (3, .int x3), (4, .int x4)] [.int s0, .ref 31] w (fX1_perform_n54 q1 q5 x3 x4 s0 w) := by
  refine q_ck (fun b2 => ?_)
  refine q_putI eX1_perform_54 fp_1_61 tC_31 rfl (q_nb b2) ?_
  refine q_ltW (fun w1 => ?_)
  refine q_aload_n 0 eX1_perform_57 rfl rfl ?_
  refine q_iconst eX1_perform_58 kiconst_0 ?_
  refine q_iload_n 1 eX1_perform_59 rfl rfl ?_
  refine q_callVV (As := [.int 0, .int x3]) (st := []) eX1_perform_60 cv_1_65 (kX1_setValue X l 0 x3 w1) tC_31 rfl (by decide) rfl rfl (Nat.le_of_ble_eq_true rfl) (by decide) (fun r3 w4 => ?_)
  refine q_aload_n 0 eX1_perform_63 rfl rfl ?_
  refine q_iconst eX1_perform_64 kiconst_1 ?_
  refine q_iload 2 eX1_perform_65 rfl ?_
  refine q_callVV (As := [.int 1, .int x4]) (st := []) eX1_perform_67 cv_1_65 (kX1_setValue X l 1 x4 w4) tC_31 rfl (by decide) rfl rfl (Nat.le_of_ble_eq_true rfl) (by decide) (fun r5 w6 => ?_)
  refine q_iconst eX1_perform_70 kiconst_0 ?_
  refine q_istore (lv' := [(6, .int 0), (0, .ref 31), (3, .int x3), (4, .int x4)]) eX1_perform_71 (by decide) rfl ?_
  exact q_sub [1, 0] rfl (jX1_perform_l73 X l q1 q5 h1 h5 0 w6)
def fX1_perform (q1 : Nat) (a2 : Int32) (a3 : Int32) (a4 : Int32) (q5 : Nat) (w : q_W) : Option (Int32 × q_W) :=
  if cC q1 = 4 then
  if cC q5 = 6 then
  q_lt (q_sR w 31 5 q1) fun w1 =>
  q_lt (q_sR w1 31 6 q5) fun w2 =>
  q_b (fX4_startOf q1 a2 w2) fun r3 w4 =>
  q_lt (q_sI w4 31 7 r3) fun w5 =>
  q_lt (q_sI w5 31 8 0) fun w6 =>
  q_lt (q_sI w6 31 9 0) fun w7 =>
  q_lt (q_sI w7 31 10 0) fun w8 =>
  q_lt (q_sI w8 31 12 0) fun w9 =>
  q_b (fX4_has q1 a2 w9) fun r10 w11 =>
  if r10 = 0 then
    fX1_perform_n54 q1 q5 a3 a4 1 w11
  else
    fX1_perform_n54 q1 q5 a3 a4 0 w11
  else none
  else none
set_option maxHeartbeats 4000000 in
set_option maxRecDepth 100000 in
theorem kX1_perform (X : q_X) (l : Launch) (q1 : Nat) (a2 : Int32) (a3 : Int32) (a4 : Int32) (q5 : Nat) (w : q_W) : q_Ct X S_C l mX1_perform 4 q_tI [.ref 31, .ref q1, .int a2, .int a3, .int a4, .ref q5] w (fX1_perform q1 a2 a3 a4 q5 w) := by
  refine q_intro (lv := [(0, .ref 31), (1, .ref q1), (2, .int a2), (3, .int a3), (4, .int a4), (5, .ref q5)]) (by decide +kernel) rfl (Nat.le_of_ble_eq_true rfl) rfl ?_
  refine q_ck (fun h1 => ?_)
  refine q_ck (fun h5 => ?_)
  refine q_aload_n 0 eX1_perform_0 rfl rfl ?_
  refine q_aload_n 1 eX1_perform_1 rfl rfl ?_
  refine q_putR eX1_perform_2 fp_1_29 tC_31 rfl ⟨rfl, rfl⟩ ?_
  refine q_ltW (fun w1 => ?_)
  refine q_aload_n 0 eX1_perform_5 rfl rfl ?_
  refine q_aload 5 eX1_perform_6 rfl ?_
  refine q_putR eX1_perform_8 fp_1_33 tC_31 rfl ⟨rfl, rfl⟩ ?_
  refine q_ltW (fun w2 => ?_)
  refine q_aload_n 0 eX1_perform_11 rfl rfl ?_
  refine q_aload_n 1 eX1_perform_12 rfl rfl ?_
  refine q_iload_n 2 eX1_perform_13 rfl rfl ?_
  refine q_callVI (As := [.int a2]) (st := [.ref 31]) eX1_perform_14 cv_1_37 (kX4_startOf X l q1 a2 w2) h1 rfl (by decide) rfl rfl (Nat.le_of_ble_eq_true rfl) (by decide) (fun r3 w4 => ?_)
  refine q_putI eX1_perform_17 fp_1_41 tC_31 rfl ⟨rfl, rfl⟩ ?_
  refine q_ltW (fun w5 => ?_)
  refine q_aload_n 0 eX1_perform_20 rfl rfl ?_
  refine q_iconst eX1_perform_21 kiconst_0 ?_
  refine q_putI eX1_perform_22 fp_1_45 tC_31 rfl ⟨rfl, rfl⟩ ?_
  refine q_ltW (fun w6 => ?_)
  refine q_aload_n 0 eX1_perform_25 rfl rfl ?_
  refine q_iconst eX1_perform_26 kiconst_0 ?_
  refine q_putI eX1_perform_27 fp_1_48 tC_31 rfl ⟨rfl, rfl⟩ ?_
  refine q_ltW (fun w7 => ?_)
  refine q_aload_n 0 eX1_perform_30 rfl rfl ?_
  refine q_iconst eX1_perform_31 kiconst_0 ?_
  refine q_putI eX1_perform_32 fp_1_51 tC_31 rfl ⟨rfl, rfl⟩ ?_
  refine q_ltW (fun w8 => ?_)
  refine q_aload_n 0 eX1_perform_35 rfl rfl ?_
  refine q_iconst eX1_perform_36 kiconst_0 ?_
  refine q_putI eX1_perform_37 fp_1_54 tC_31 rfl ⟨rfl, rfl⟩ ?_
  refine q_ltW (fun w9 => ?_)
  refine q_aload_n 0 eX1_perform_40 rfl rfl ?_
  refine q_aload_n 1 eX1_perform_41 rfl rfl ?_
  refine q_iload_n 2 eX1_perform_42 rfl rfl ?_
  refine q_callVI (As := [.int a2]) (st := [.ref 31]) eX1_perform_43 cv_1_57 (kX4_has X l q1 a2 w9) h1 rfl (by decide) rfl rfl (Nat.le_of_ble_eq_true rfl) (by decide) (fun r10 w11 => ?_)
  refine q_if_ne (tgt := 53) eX1_perform_46 (by decide) (fun _ => ?_) (fun _ => ?_)
  · refine q_iconst eX1_perform_49 kiconst_1 ?_
    refine q_goto (tgt := 54) eX1_perform_50 (by decide) ?_
    exact q_sub [0, 3, 4] rfl (jX1_perform_n54 X l q1 q5 h1 h5 a3 a4 1 w11)
  · refine q_iconst eX1_perform_53 kiconst_0 ?_
    exact q_sub [0, 3, 4] rfl (jX1_perform_n54 X l q1 q5 h1 h5 a3 a4 0 w11)
def fX1_deedPlace (w : q_W) : Option (Int32 × q_W) :=
  some ((w.1 31 11), w)
set_option maxHeartbeats 4000000 in
set_option maxRecDepth 100000 in
theorem kX1_deedPlace (X : q_X) (l : Launch) (w : q_W) : q_Ct X S_C l mX1_deedPlace 0 q_tI [.ref 31] w (fX1_deedPlace w) := by
  refine q_intro (lv := [(0, .ref 31)]) (by decide +kernel) rfl (Nat.le_of_ble_eq_true rfl) rfl ?_
  refine q_aload_n 0 eX1_deedPlace_0 rfl rfl ?_
  refine q_getI eX1_deedPlace_1 fl_1_73 tC_31 rfl ?_
  exact q_ireturn eX1_deedPlace_4 rfl
def fX1_deedsDone (w : q_W) : Option (Int32 × q_W) :=
  some ((w.1 31 10), w)
set_option maxHeartbeats 4000000 in
set_option maxRecDepth 100000 in
theorem kX1_deedsDone (X : q_X) (l : Launch) (w : q_W) : q_Ct X S_C l mX1_deedsDone 0 q_tI [.ref 31] w (fX1_deedsDone w) := by
  refine q_intro (lv := [(0, .ref 31)]) (by decide +kernel) rfl (Nat.le_of_ble_eq_true rfl) rfl ?_
  refine q_aload_n 0 eX1_deedsDone_0 rfl rfl ?_
  refine q_getI eX1_deedsDone_1 fl_1_51 tC_31 rfl ?_
  exact q_ireturn eX1_deedsDone_4 rfl
def fX2_facts (w : q_W) : Option (Nat × q_W) :=
  some (4, w)
set_option maxHeartbeats 4000000 in
set_option maxRecDepth 100000 in
theorem kX2_facts (X : q_X) (l : Launch) (w : q_W) : q_Ct X S_C l mX2_facts 0 q_tR [.ref 3] w (fX2_facts w) := by
  refine q_intro (lv := [(0, .ref 3)]) (by decide +kernel) rfl (Nat.le_of_ble_eq_true rfl) rfl ?_
  refine q_aload_n 0 eX2_facts_0 rfl rfl ?_
  refine q_getG (v := 4) eX2_facts_1 fl_2_12 tC_3 rfl gC_3_0 ?_
  exact q_areturn eX2_facts_4 rfl (Or.inl ⟨_, rfl⟩)
def fX6_size (q0 : Nat) (w : q_W) : Option (Int32 × q_W) :=
  if cC q0 = 6 then
  some ((w.1 q0 2), w)
  else none
set_option maxHeartbeats 4000000 in
set_option maxRecDepth 100000 in
theorem kX6_size (X : q_X) (l : Launch) (q0 : Nat) (w : q_W) : q_Ct X S_C l mX6_size 0 q_tI [.ref q0] w (fX6_size q0 w) := by
  refine q_intro (lv := [(0, .ref q0)]) (by decide +kernel) rfl (Nat.le_of_ble_eq_true rfl) rfl ?_
  refine q_ck (fun h0 => ?_)
  refine q_aload_n 0 eX6_size_0 rfl rfl ?_
  refine q_getI eX6_size_1 fl_6_22 h0 rfl ?_
  exact q_ireturn eX6_size_4 rfl
def fX2_size (w : q_W) : Option (Int32 × q_W) :=
  q_b (fX6_size 4 w) fun r1 w2 =>
  some (r1, w2)
set_option maxHeartbeats 4000000 in
set_option maxRecDepth 100000 in
theorem kX2_size (X : q_X) (l : Launch) (w : q_W) : q_Ct X S_C l mX2_size 1 q_tI [.ref 3] w (fX2_size w) := by
  refine q_intro (lv := [(0, .ref 3)]) (by decide +kernel) rfl (Nat.le_of_ble_eq_true rfl) rfl ?_
  refine q_aload_n 0 eX2_size_0 rfl rfl ?_
  refine q_getG (v := 4) eX2_size_1 fl_2_12 tC_3 rfl gC_3_0 ?_
  refine q_callVI (As := []) (st := []) eX2_size_4 cv_2_30 (kX6_size X l 4 w) tC_4 rfl (by decide) rfl rfl (Nat.le_of_ble_eq_true rfl) (by decide) (fun r1 w2 => ?_)
  exact q_ireturn eX2_size_7 rfl
def fX6_roomLeft (q0 : Nat) (w : q_W) : Option (Int32 × q_W) :=
  if cC q0 = 6 then
  some (((w.1 q0 3) - (w.1 q0 2)), w)
  else none
set_option maxHeartbeats 4000000 in
set_option maxRecDepth 100000 in
theorem kX6_roomLeft (X : q_X) (l : Launch) (q0 : Nat) (w : q_W) : q_Ct X S_C l mX6_roomLeft 0 q_tI [.ref q0] w (fX6_roomLeft q0 w) := by
  refine q_intro (lv := [(0, .ref q0)]) (by decide +kernel) rfl (Nat.le_of_ble_eq_true rfl) rfl ?_
  refine q_ck (fun h0 => ?_)
  refine q_aload_n 0 eX6_roomLeft_0 rfl rfl ?_
  refine q_getI eX6_roomLeft_1 fl_6_18 h0 rfl ?_
  refine q_aload_n 0 eX6_roomLeft_4 rfl rfl ?_
  refine q_getI eX6_roomLeft_5 fl_6_22 h0 rfl ?_
  refine q_isub eX6_roomLeft_8 ?_
  exact q_ireturn eX6_roomLeft_9 rfl
def fX2_roomLeft (w : q_W) : Option (Int32 × q_W) :=
  q_b (fX6_roomLeft 4 w) fun r1 w2 =>
  some (r1, w2)
set_option maxHeartbeats 4000000 in
set_option maxRecDepth 100000 in
theorem kX2_roomLeft (X : q_X) (l : Launch) (w : q_W) : q_Ct X S_C l mX2_roomLeft 1 q_tI [.ref 3] w (fX2_roomLeft w) := by
  refine q_intro (lv := [(0, .ref 3)]) (by decide +kernel) rfl (Nat.le_of_ble_eq_true rfl) rfl ?_
  refine q_aload_n 0 eX2_roomLeft_0 rfl rfl ?_
  refine q_getG (v := 4) eX2_roomLeft_1 fl_2_12 tC_3 rfl gC_3_0 ?_
  refine q_callVI (As := []) (st := []) eX2_roomLeft_4 cv_2_34 (kX6_roomLeft X l 4 w) tC_4 rfl (by decide) rfl rfl (Nat.le_of_ble_eq_true rfl) (by decide) (fun r1 w2 => ?_)
  exact q_ireturn eX2_roomLeft_7 rfl
def fX2_has (a1 : Int32) (w : q_W) : Option (Int32 × q_W) :=
  if a1 < 0 then
    some (0, w)
  else
    q_b (fX6_size 4 w) fun r1 w2 =>
    if r1 ≤ a1 then
      some (0, w2)
    else
      some (1, w2)
set_option maxHeartbeats 4000000 in
set_option maxRecDepth 100000 in
theorem kX2_has (X : q_X) (l : Launch) (a1 : Int32) (w : q_W) : q_Ct X S_C l mX2_has 1 q_tI [.ref 3, .int a1] w (fX2_has a1 w) := by
  refine q_intro (lv := [(0, .ref 3), (1, .int a1)]) (by decide +kernel) rfl (Nat.le_of_ble_eq_true rfl) rfl ?_
  refine q_iload_n 1 eX2_has_0 rfl rfl ?_
  refine q_if_lt (tgt := 19) eX2_has_1 (by decide) (fun _ => ?_) (fun _ => ?_)
  · refine q_iconst eX2_has_19 kiconst_0 ?_
    exact q_zret eX2_has_20 rfl rfl
  · refine q_iload_n 1 eX2_has_4 rfl rfl ?_
    refine q_aload_n 0 eX2_has_5 rfl rfl ?_
    refine q_getG (v := 4) eX2_has_6 fl_2_12 tC_3 rfl gC_3_0 ?_
    refine q_callVI (As := []) (st := [.int a1]) eX2_has_9 cv_2_30 (kX6_size X l 4 w) tC_4 rfl (by decide) rfl rfl (Nat.le_of_ble_eq_true rfl) (by decide) (fun r1 w2 => ?_)
    refine q_icmp_ge (tgt := 19) eX2_has_12 (by decide) (fun _ => ?_) (fun _ => ?_)
    · refine q_iconst eX2_has_19 kiconst_0 ?_
      exact q_zret eX2_has_20 rfl rfl
    · refine q_iconst eX2_has_15 kiconst_1 ?_
      refine q_goto (tgt := 20) eX2_has_16 (by decide) ?_
      exact q_zret eX2_has_20 rfl rfl
def fX2_knows (a1 : Int32) (w : q_W) : Option (Int32 × q_W) :=
  if a1 < 0 then
    some (0, w)
  else
    q_b (fX6_size 4 w) fun r1 w2 =>
    if r1 < a1 then
      some (0, w2)
    else
      some (1, w2)
set_option maxHeartbeats 4000000 in
set_option maxRecDepth 100000 in
theorem kX2_knows (X : q_X) (l : Launch) (a1 : Int32) (w : q_W) : q_Ct X S_C l mX2_knows 1 q_tI [.ref 3, .int a1] w (fX2_knows a1 w) := by
  refine q_intro (lv := [(0, .ref 3), (1, .int a1)]) (by decide +kernel) rfl (Nat.le_of_ble_eq_true rfl) rfl ?_
  refine q_iload_n 1 eX2_knows_0 rfl rfl ?_
  refine q_if_lt (tgt := 19) eX2_knows_1 (by decide) (fun _ => ?_) (fun _ => ?_)
  · refine q_iconst eX2_knows_19 kiconst_0 ?_
    exact q_zret eX2_knows_20 rfl rfl
  · refine q_iload_n 1 eX2_knows_4 rfl rfl ?_
    refine q_aload_n 0 eX2_knows_5 rfl rfl ?_
    refine q_getG (v := 4) eX2_knows_6 fl_2_12 tC_3 rfl gC_3_0 ?_
    refine q_callVI (As := []) (st := [.int a1]) eX2_knows_9 cv_2_30 (kX6_size X l 4 w) tC_4 rfl (by decide) rfl rfl (Nat.le_of_ble_eq_true rfl) (by decide) (fun r1 w2 => ?_)
    refine q_icmp_gt (tgt := 19) eX2_knows_12 (by decide) (fun _ => ?_) (fun _ => ?_)
    · refine q_iconst eX2_knows_19 kiconst_0 ?_
      exact q_zret eX2_knows_20 rfl rfl
    · refine q_iconst eX2_knows_15 kiconst_1 ?_
      refine q_goto (tgt := 20) eX2_knows_16 (by decide) ?_
      exact q_zret eX2_knows_20 rfl rfl
def fX2_tell (a1 : Int32) (q2 : Nat) (w : q_W) : Option (Int32 × q_W) :=
  if cC q2 = 100 then
  q_b (fX6_fits a1 q2 w) fun r1 w2 =>
  if r1 = 0 then
    some ((-1), w2)
  else
    q_b (fX6_add 4 a1 q2 w2) fun r3 w4 =>
    some (r3, w4)
  else none
set_option maxHeartbeats 4000000 in
set_option maxRecDepth 100000 in
theorem kX2_tell (X : q_X) (l : Launch) (a1 : Int32) (q2 : Nat) (w : q_W) : q_Ct X S_C l mX2_tell 2 q_tI [.ref 3, .int a1, .ref q2] w (fX2_tell a1 q2 w) := by
  refine q_intro (lv := [(0, .ref 3), (1, .int a1), (2, .ref q2)]) (by decide +kernel) rfl (Nat.le_of_ble_eq_true rfl) rfl ?_
  refine q_ck (fun h2 => ?_)
  refine q_iload_n 1 eX2_tell_0 rfl rfl ?_
  refine q_aload_n 2 eX2_tell_1 rfl rfl ?_
  refine q_callSI (As := [.int a1, .ref q2]) (st := []) eX2_tell_2 cv_2_37 (kX6_fits X l a1 q2 w) rfl rfl (Nat.le_of_ble_eq_true rfl) (by decide) (fun r1 w2 => ?_)
  refine q_if_eq (tgt := 20) eX2_tell_5 (by decide) (fun _ => ?_) (fun _ => ?_)
  · refine q_iconst eX2_tell_20 kiconst_m1 ?_
    exact q_ireturn eX2_tell_21 rfl
  · refine q_aload_n 0 eX2_tell_8 rfl rfl ?_
    refine q_getG (v := 4) eX2_tell_9 fl_2_12 tC_3 rfl gC_3_0 ?_
    refine q_iload_n 1 eX2_tell_12 rfl rfl ?_
    refine q_aload_n 2 eX2_tell_13 rfl rfl ?_
    refine q_callVI (As := [.int a1, .ref q2]) (st := []) eX2_tell_14 cv_2_41 (kX6_add X l 4 a1 q2 w2) tC_4 rfl (by decide) rfl rfl (Nat.le_of_ble_eq_true rfl) (by decide) (fun r3 w4 => ?_)
    refine q_goto (tgt := 21) eX2_tell_17 (by decide) ?_
    exact q_ireturn eX2_tell_21 rfl
def fX2_tellStrike_n38 (q1 : Nat) (s0 : Int32) (w : q_W) : Option (Int32 × q_W) :=
  if s0 = 0 then
    some ((-1), w)
  else
    q_b (fX6_add 4 5 q1 w) fun r1 w2 =>
    some (r1, w2)
set_option maxHeartbeats 4000000 in
set_option maxRecDepth 100000 in
theorem jX2_tellStrike_n38 (X : q_X) (l : Launch) (q1 : Nat) (h1 : cC q1 = 100) (s0 : Int32) (w : q_W) : q_J X S_C l mX2_tellStrike 2 q_tI 38 [(0, .ref 3), (1, .ref q1)] [.int s0] w (fX2_tellStrike_n38 q1 s0 w) := by
  refine q_istore_n (lv' := [(3, .int s0), (0, .ref 3), (1, .ref q1)]) eX2_tellStrike_38 rfl (by decide) rfl ?_
  refine q_iload_n 0 eX2_tellStrike_39 rfl rfl ?_
  refine q_if_eq (tgt := 55) eX2_tellStrike_40 (by decide) (fun _ => ?_) (fun _ => ?_)
  · refine q_iconst eX2_tellStrike_55 kiconst_m1 ?_
    exact q_ireturn eX2_tellStrike_56 rfl
  · refine q_aload_n 1 eX2_tellStrike_43 rfl rfl ?_
    refine q_getG (v := 4) eX2_tellStrike_44 fl_2_12 tC_3 rfl gC_3_0 ?_
    refine q_iconst eX2_tellStrike_47 kiconst_5 ?_
    refine q_aload_n 2 eX2_tellStrike_48 rfl rfl ?_
    refine q_callVI (As := [.int 5, .ref q1]) (st := []) eX2_tellStrike_49 cv_2_41 (kX6_add X l 4 5 q1 w) tC_4 rfl (by decide) rfl rfl (Nat.le_of_ble_eq_true rfl) (by decide) (fun r1 w2 => ?_)
    refine q_goto (tgt := 56) eX2_tellStrike_52 (by decide) ?_
    exact q_ireturn eX2_tellStrike_56 rfl
def fX2_tellStrike_n37 (q1 : Nat) (w : q_W) : Option (Int32 × q_W) :=
  fX2_tellStrike_n38 q1 0 w
set_option maxHeartbeats 4000000 in
set_option maxRecDepth 100000 in
theorem jX2_tellStrike_n37 (X : q_X) (l : Launch) (q1 : Nat) (h1 : cC q1 = 100) (w : q_W) : q_J X S_C l mX2_tellStrike 2 q_tI 37 [(0, .ref 3), (1, .ref q1)] [] w (fX2_tellStrike_n37 q1 w) := by
  refine q_iconst eX2_tellStrike_37 kiconst_0 ?_
  exact q_sub [0, 1] rfl (jX2_tellStrike_n38 X l q1 h1 0 w)
def fX2_tellStrike_n12 (q1 : Nat) (s0 : Int32) (w : q_W) : Option (Int32 × q_W) :=
  q_b (fX2_has s0 w) fun r1 w2 =>
  if r1 = 0 then
    fX2_tellStrike_n37 q1 w2
  else
    q_b (fX6_kindOf 4 s0 w2) fun r3 w4 =>
    if r3 = 5 then
      fX2_tellStrike_n37 q1 w4
    else
      fX2_tellStrike_n38 q1 1 w4
set_option maxHeartbeats 4000000 in
set_option maxRecDepth 100000 in
theorem jX2_tellStrike_n12 (X : q_X) (l : Launch) (q1 : Nat) (h1 : cC q1 = 100) (s0 : Int32) (w : q_W) : q_J X S_C l mX2_tellStrike 2 q_tI 12 [(0, .ref 3), (1, .ref q1)] [.int s0] w (fX2_tellStrike_n12 q1 s0 w) := by
  refine q_istore_n (lv' := [(2, .int s0), (0, .ref 3), (1, .ref q1)]) eX2_tellStrike_12 rfl (by decide) rfl ?_
  refine q_aload_n 1 eX2_tellStrike_13 rfl rfl ?_
  refine q_iload_n 0 eX2_tellStrike_14 rfl rfl ?_
  refine q_callVI (As := [.int s0]) (st := []) eX2_tellStrike_15 cv_2_45 (kX2_has X l s0 w) tC_3 rfl (by decide) rfl rfl (Nat.le_of_ble_eq_true rfl) (by decide) (fun r1 w2 => ?_)
  refine q_if_eq (tgt := 37) eX2_tellStrike_18 (by decide) (fun _ => ?_) (fun _ => ?_)
  · exact q_sub [1, 2] rfl (jX2_tellStrike_n37 X l q1 h1 w2)
  · refine q_aload_n 1 eX2_tellStrike_21 rfl rfl ?_
    refine q_getG (v := 4) eX2_tellStrike_22 fl_2_12 tC_3 rfl gC_3_0 ?_
    refine q_iload_n 0 eX2_tellStrike_25 rfl rfl ?_
    refine q_callVI (As := [.int s0]) (st := []) eX2_tellStrike_26 cv_2_49 (kX6_kindOf X l 4 s0 w2) tC_4 rfl (by decide) rfl rfl (Nat.le_of_ble_eq_true rfl) (by decide) (fun r3 w4 => ?_)
    refine q_iconst eX2_tellStrike_29 kiconst_5 ?_
    refine q_icmp_eq (tgt := 37) eX2_tellStrike_30 (by decide) (fun _ => ?_) (fun _ => ?_)
    · exact q_sub [1, 2] rfl (jX2_tellStrike_n37 X l q1 h1 w4)
    · refine q_iconst eX2_tellStrike_33 kiconst_1 ?_
      refine q_goto (tgt := 38) eX2_tellStrike_34 (by decide) ?_
      exact q_sub [1, 2] rfl (jX2_tellStrike_n38 X l q1 h1 1 w4)
def fX2_tellStrike (q1 : Nat) (w : q_W) : Option (Int32 × q_W) :=
  if cC q1 = 100 then
  if (Int32.ofNat (lC q1)) ≤ 0 then
    fX2_tellStrike_n12 q1 (-1) w
  else
    if q_inb 0 (lC q1) then
    fX2_tellStrike_n12 q1 (w.1 q1 (q_ix 0)) w
    else none
  else none
set_option maxHeartbeats 4000000 in
set_option maxRecDepth 100000 in
theorem kX2_tellStrike (X : q_X) (l : Launch) (q1 : Nat) (w : q_W) : q_Ct X S_C l mX2_tellStrike 2 q_tI [.ref 3, .ref q1] w (fX2_tellStrike q1 w) := by
  refine q_intro (lv := [(0, .ref 3), (1, .ref q1)]) (by decide +kernel) rfl (Nat.le_of_ble_eq_true rfl) rfl ?_
  refine q_ck (fun h1 => ?_)
  refine q_aload_n 1 eX2_tellStrike_0 rfl rfl ?_
  refine q_alen eX2_tellStrike_1 h1 rfl ?_
  refine q_if_le (tgt := 11) eX2_tellStrike_2 (by decide) (fun _ => ?_) (fun _ => ?_)
  · refine q_iconst eX2_tellStrike_11 kiconst_m1 ?_
    exact q_sub [0, 1] rfl (jX2_tellStrike_n12 X l q1 h1 (-1) w)
  · refine q_aload_n 1 eX2_tellStrike_5 rfl rfl ?_
    refine q_iconst eX2_tellStrike_6 kiconst_0 ?_
    refine q_iald eX2_tellStrike_7 h1 rfl ?_
    refine q_goto (tgt := 12) eX2_tellStrike_8 (by decide) ?_
    exact q_sub [0, 1] rfl (jX2_tellStrike_n12 X l q1 h1 (w.1 q1 (q_ix 0)) w)
def fX6_addAll_n51 (q0 : Nat) (q1 : Nat) (q2 : Nat) (rec2 : Int32 → q_W → Option (Unit × q_W)) (x3 : Int32) (w : q_W) : Option (Unit × q_W) :=
  q_b (fX6_kindOf q1 x3 w) fun r1 w2 =>
  q_b (fX6_add q0 r1 q2 w2) fun r3 w4 =>
  q_lt (x3 + 1) fun y5 =>
  rec2 y5 w4
set_option maxHeartbeats 4000000 in
set_option maxRecDepth 100000 in
theorem jX6_addAll_n51 (X : q_X) (l : Launch) (q0 : Nat) (q1 : Nat) (q2 : Nat) (h0 : cC q0 = 6) (h1 : cC q1 = 6) (h2 : cC q2 = 100) (rec2 : Int32 → q_W → Option (Unit × q_W)) (hr2 : ∀ x3 w, q_J X S_C l mX6_addAll 2 q_tV 2 [(0, .ref q0), (1, .ref q1), (2, .ref q2), (3, .int x3)] [] w (rec2 x3 w)) (x3 : Int32) (w : q_W) : q_J X S_C l mX6_addAll 2 q_tV 51 [(0, .ref q0), (1, .ref q1), (2, .ref q2), (3, .int x3)] [] w (fX6_addAll_n51 q0 q1 q2 rec2 x3 w) := by
  refine q_aload_n 0 eX6_addAll_51 rfl rfl ?_
  refine q_aload_n 1 eX6_addAll_52 rfl rfl ?_
  refine q_iload_n 3 eX6_addAll_53 rfl rfl ?_
  refine q_callVI (As := [.int x3]) (st := [.ref q0]) eX6_addAll_54 cv_6_45 (kX6_kindOf X l q1 x3 w) h1 rfl (by decide) rfl rfl (Nat.le_of_ble_eq_true rfl) (by decide) (fun r1 w2 => ?_)
  refine q_aload_n 2 eX6_addAll_57 rfl rfl ?_
  refine q_callVI (As := [.int r1, .ref q2]) (st := []) eX6_addAll_58 cv_6_49 (kX6_add X l q0 r1 q2 w2) h0 rfl (by decide) rfl rfl (Nat.le_of_ble_eq_true rfl) (by decide) (fun r3 w4 => ?_)
  refine q_pop eX6_addAll_61 rfl ?_
  refine q_ltE (fun y5 hy5 => ?_)
  refine q_iinc (v := y5) (lv' := [(3, .int y5), (0, .ref q0), (1, .ref q1), (2, .ref q2)]) 3 eX6_addAll_62 rfl hy5 (by decide) rfl ?_
  refine q_goto (tgt := 2) eX6_addAll_65 (by decide) ?_
  exact q_sub [1, 2, 3, 0] rfl (hr2 y5 w4)
def fX6_addAll_h20 (q0 : Nat) (q1 : Nat) (q2 : Nat) (rec2 : Int32 → q_W → Option (Unit × q_W)) (rec20 : Int32 → Int32 → q_W → Option (Unit × q_W)) (x3 : Int32) (x4 : Int32) (w : q_W) : Option (Unit × q_W) :=
  if 6 ≤ x4 then
    fX6_addAll_n51 q0 q1 q2 rec2 x3 w
  else
    if (Int32.ofNat (lC q2)) ≤ x4 then
      fX6_addAll_n51 q0 q1 q2 rec2 x3 w
    else
      q_b (fX6_numberOf q1 x3 x4 w) fun r1 w2 =>
      if q_inb x4 (lC q2) then
      q_lt (q_sI w2 q2 (q_ix x4) r1) fun w3 =>
      q_lt (x4 + 1) fun y4 =>
      rec20 x3 y4 w3
      else none
def fX6_addAll_l20 (q0 : Nat) (q1 : Nat) (q2 : Nat) (rec2 : Int32 → q_W → Option (Unit × q_W)) : Int32 → Int32 → q_W → Option (Unit × q_W) := q_it q_N (fX6_addAll_h20 q0 q1 q2 rec2) (fun _ _ _ => none)
set_option maxHeartbeats 4000000 in
set_option maxRecDepth 100000 in
theorem jX6_addAll_h20 (X : q_X) (l : Launch) (q0 : Nat) (q1 : Nat) (q2 : Nat) (h0 : cC q0 = 6) (h1 : cC q1 = 6) (h2 : cC q2 = 100) (rec2 : Int32 → q_W → Option (Unit × q_W)) (hr2 : ∀ x3 w, q_J X S_C l mX6_addAll 2 q_tV 2 [(0, .ref q0), (1, .ref q1), (2, .ref q2), (3, .int x3)] [] w (rec2 x3 w)) (rec20 : Int32 → Int32 → q_W → Option (Unit × q_W)) (hr20 : ∀ x3 x4 w, q_J X S_C l mX6_addAll 2 q_tV 20 [(0, .ref q0), (1, .ref q1), (2, .ref q2), (3, .int x3), (4, .int x4)] [] w (rec20 x3 x4 w)) : ∀ x3 x4 w, q_J X S_C l mX6_addAll 2 q_tV 20 [(0, .ref q0), (1, .ref q1), (2, .ref q2), (3, .int x3), (4, .int x4)] [] w (fX6_addAll_h20 q0 q1 q2 rec2 rec20 x3 x4 w) := by
  intro x3 x4 w
  refine q_iload 4 eX6_addAll_20 rfl ?_
  refine q_bipush eX6_addAll_22 kbipush_6 ?_
  refine q_icmp_ge (tgt := 51) eX6_addAll_24 (by decide) (fun _ => ?_) (fun _ => ?_)
  · exact q_sub [0, 1, 2, 3] rfl (jX6_addAll_n51 X l q0 q1 q2 h0 h1 h2 rec2 hr2 x3 w)
  · refine q_iload 4 eX6_addAll_27 rfl ?_
    refine q_aload_n 2 eX6_addAll_29 rfl rfl ?_
    refine q_alen eX6_addAll_30 h2 rfl ?_
    refine q_icmp_ge (tgt := 51) eX6_addAll_31 (by decide) (fun _ => ?_) (fun _ => ?_)
    · exact q_sub [0, 1, 2, 3] rfl (jX6_addAll_n51 X l q0 q1 q2 h0 h1 h2 rec2 hr2 x3 w)
    · refine q_aload_n 2 eX6_addAll_34 rfl rfl ?_
      refine q_iload 4 eX6_addAll_35 rfl ?_
      refine q_aload_n 1 eX6_addAll_37 rfl rfl ?_
      refine q_iload_n 3 eX6_addAll_38 rfl rfl ?_
      refine q_iload 4 eX6_addAll_39 rfl ?_
      refine q_callVI (As := [.int x3, .int x4]) (st := [.int x4, .ref q2]) eX6_addAll_41 cv_6_42 (kX6_numberOf X l q1 x3 x4 w) h1 rfl (by decide) rfl rfl (Nat.le_of_ble_eq_true rfl) (by decide) (fun r1 w2 => ?_)
      refine q_iast eX6_addAll_44 h2 rfl ?_
      refine q_ltW (fun w3 => ?_)
      refine q_ltE (fun y4 hy4 => ?_)
      refine q_iinc (v := y4) (lv' := [(4, .int y4), (0, .ref q0), (1, .ref q1), (2, .ref q2), (3, .int x3)]) 4 eX6_addAll_45 rfl hy4 (by decide) rfl ?_
      refine q_goto (tgt := 20) eX6_addAll_48 (by decide) ?_
      exact q_sub [1, 2, 3, 4, 0] rfl (hr20 x3 y4 w3)
set_option maxHeartbeats 4000000 in
set_option maxRecDepth 100000 in
theorem jX6_addAll_l20 (X : q_X) (l : Launch) (q0 : Nat) (q1 : Nat) (q2 : Nat) (h0 : cC q0 = 6) (h1 : cC q1 = 6) (h2 : cC q2 = 100) (rec2 : Int32 → q_W → Option (Unit × q_W)) (hr2 : ∀ x3 w, q_J X S_C l mX6_addAll 2 q_tV 2 [(0, .ref q0), (1, .ref q1), (2, .ref q2), (3, .int x3)] [] w (rec2 x3 w)) : ∀ x3 x4 w, q_J X S_C l mX6_addAll 2 q_tV 20 [(0, .ref q0), (1, .ref q1), (2, .ref q2), (3, .int x3), (4, .int x4)] [] w (fX6_addAll_l20 q0 q1 q2 rec2 x3 x4 w) := by
  exact q_it_ind (fun rc => ∀ x3 x4 w, q_J X S_C l mX6_addAll 2 q_tV 20 [(0, .ref q0), (1, .ref q1), (2, .ref q2), (3, .int x3), (4, .int x4)] [] w (rc x3 x4 w)) _ _ (fun _ _ _ => q_none) (fun rc hrc => jX6_addAll_h20 X l q0 q1 q2 h0 h1 h2 rec2 hr2 rc hrc) q_N
def fX6_addAll_h2 (q0 : Nat) (q1 : Nat) (q2 : Nat) (rec2 : Int32 → q_W → Option (Unit × q_W)) (x3 : Int32) (w : q_W) : Option (Unit × q_W) :=
  if (w.1 q1 2) ≤ x3 then
    some ((), w)
  else
    if 480 ≤ x3 then
      some ((), w)
    else
      fX6_addAll_l20 q0 q1 q2 rec2 x3 0 w
def fX6_addAll_l2 (q0 : Nat) (q1 : Nat) (q2 : Nat) : Int32 → q_W → Option (Unit × q_W) := q_it q_N (fX6_addAll_h2 q0 q1 q2) (fun _ _ => none)
set_option maxHeartbeats 4000000 in
set_option maxRecDepth 100000 in
theorem jX6_addAll_h2 (X : q_X) (l : Launch) (q0 : Nat) (q1 : Nat) (q2 : Nat) (h0 : cC q0 = 6) (h1 : cC q1 = 6) (h2 : cC q2 = 100) (rec2 : Int32 → q_W → Option (Unit × q_W)) (hr2 : ∀ x3 w, q_J X S_C l mX6_addAll 2 q_tV 2 [(0, .ref q0), (1, .ref q1), (2, .ref q2), (3, .int x3)] [] w (rec2 x3 w)) : ∀ x3 w, q_J X S_C l mX6_addAll 2 q_tV 2 [(0, .ref q0), (1, .ref q1), (2, .ref q2), (3, .int x3)] [] w (fX6_addAll_h2 q0 q1 q2 rec2 x3 w) := by
  intro x3 w
  refine q_iload_n 3 eX6_addAll_2 rfl rfl ?_
  refine q_aload_n 1 eX6_addAll_3 rfl rfl ?_
  refine q_getI eX6_addAll_4 fl_6_22 h1 rfl ?_
  refine q_icmp_ge (tgt := 68) eX6_addAll_7 (by decide) (fun _ => ?_) (fun _ => ?_)
  · exact q_return eX6_addAll_68 rfl
  · refine q_iload_n 3 eX6_addAll_10 rfl rfl ?_
    refine q_sipush eX6_addAll_11 ksipush_480 ?_
    refine q_icmp_ge (tgt := 68) eX6_addAll_14 (by decide) (fun _ => ?_) (fun _ => ?_)
    · exact q_return eX6_addAll_68 rfl
    · refine q_iconst eX6_addAll_17 kiconst_0 ?_
      refine q_istore (lv' := [(4, .int 0), (0, .ref q0), (1, .ref q1), (2, .ref q2), (3, .int x3)]) eX6_addAll_18 (by decide) rfl ?_
      exact q_sub [1, 2, 3, 4, 0] rfl (jX6_addAll_l20 X l q0 q1 q2 h0 h1 h2 rec2 hr2 x3 0 w)
set_option maxHeartbeats 4000000 in
set_option maxRecDepth 100000 in
theorem jX6_addAll_l2 (X : q_X) (l : Launch) (q0 : Nat) (q1 : Nat) (q2 : Nat) (h0 : cC q0 = 6) (h1 : cC q1 = 6) (h2 : cC q2 = 100) : ∀ x3 w, q_J X S_C l mX6_addAll 2 q_tV 2 [(0, .ref q0), (1, .ref q1), (2, .ref q2), (3, .int x3)] [] w (fX6_addAll_l2 q0 q1 q2 x3 w) := by
  exact q_it_ind (fun rc => ∀ x3 w, q_J X S_C l mX6_addAll 2 q_tV 2 [(0, .ref q0), (1, .ref q1), (2, .ref q2), (3, .int x3)] [] w (rc x3 w)) _ _ (fun _ _ => q_none) (fun rc hrc => jX6_addAll_h2 X l q0 q1 q2 h0 h1 h2 rc hrc) q_N
def fX6_addAll (q0 : Nat) (q1 : Nat) (q2 : Nat) (w : q_W) : Option (Unit × q_W) :=
  if cC q0 = 6 then
  if cC q1 = 6 then
  if cC q2 = 100 then
  fX6_addAll_l2 q0 q1 q2 0 w
  else none
  else none
  else none
set_option maxHeartbeats 4000000 in
set_option maxRecDepth 100000 in
theorem kX6_addAll (X : q_X) (l : Launch) (q0 : Nat) (q1 : Nat) (q2 : Nat) (w : q_W) : q_Ct X S_C l mX6_addAll 2 q_tV [.ref q0, .ref q1, .ref q2] w (fX6_addAll q0 q1 q2 w) := by
  refine q_intro (lv := [(0, .ref q0), (1, .ref q1), (2, .ref q2)]) (by decide +kernel) rfl (Nat.le_of_ble_eq_true rfl) rfl ?_
  refine q_ck (fun h0 => ?_)
  refine q_ck (fun h1 => ?_)
  refine q_ck (fun h2 => ?_)
  refine q_iconst eX6_addAll_0 kiconst_0 ?_
  refine q_istore_n (lv' := [(3, .int 0), (0, .ref q0), (1, .ref q1), (2, .ref q2)]) eX6_addAll_1 rfl (by decide) rfl ?_
  exact q_sub [1, 2, 3, 0] rfl (jX6_addAll_l2 X l q0 q1 q2 h0 h1 h2 0 w)
def fX2_tellAll (q1 : Nat) (w : q_W) : Option (Unit × q_W) :=
  if cC q1 = 6 then
  q_b (fX6_addAll 4 q1 8 w) fun r1 w2 =>
  some ((), w2)
  else none
set_option maxHeartbeats 4000000 in
set_option maxRecDepth 100000 in
theorem kX2_tellAll (X : q_X) (l : Launch) (q1 : Nat) (w : q_W) : q_Ct X S_C l mX2_tellAll 3 q_tV [.ref 3, .ref q1] w (fX2_tellAll q1 w) := by
  refine q_intro (lv := [(0, .ref 3), (1, .ref q1)]) (by decide +kernel) rfl (Nat.le_of_ble_eq_true rfl) rfl ?_
  refine q_ck (fun h1 => ?_)
  refine q_aload_n 0 eX2_tellAll_0 rfl rfl ?_
  refine q_getG (v := 4) eX2_tellAll_1 fl_2_12 tC_3 rfl gC_3_0 ?_
  refine q_aload_n 1 eX2_tellAll_4 rfl rfl ?_
  refine q_aload_n 0 eX2_tellAll_5 rfl rfl ?_
  refine q_getG (v := 8) eX2_tellAll_6 fl_2_22 tC_3 rfl gC_3_2 ?_
  refine q_callVV (As := [.ref q1, .ref 8]) (st := []) eX2_tellAll_9 cv_2_53 (kX6_addAll X l 4 q1 8 w) tC_4 rfl (by decide) rfl rfl (Nat.le_of_ble_eq_true rfl) (by decide) (fun r1 w2 => ?_)
  exact q_return eX2_tellAll_12 rfl
def fX2_markOut (a1 : Int32) (w : q_W) : Option (Unit × q_W) :=
  if a1 < 0 then
    some ((), w)
  else
    if 120 ≤ a1 then
      some ((), w)
    else
      if q_inb a1 120 then
      q_lt (q_sI w 7 (q_ix a1) (vp_nar .boolean 1)) fun w1 =>
      some ((), w1)
      else none
set_option maxHeartbeats 4000000 in
set_option maxRecDepth 100000 in
theorem kX2_markOut (X : q_X) (l : Launch) (a1 : Int32) (w : q_W) : q_Ct X S_C l mX2_markOut 0 q_tV [.ref 3, .int a1] w (fX2_markOut a1 w) := by
  refine q_intro (lv := [(0, .ref 3), (1, .int a1)]) (by decide +kernel) rfl (Nat.le_of_ble_eq_true rfl) rfl ?_
  refine q_iload_n 1 eX2_markOut_0 rfl rfl ?_
  refine q_if_lt (tgt := 17) eX2_markOut_1 (by decide) (fun _ => ?_) (fun _ => ?_)
  · exact q_return eX2_markOut_17 rfl
  · refine q_iload_n 1 eX2_markOut_4 rfl rfl ?_
    refine q_bipush eX2_markOut_5 kbipush_120 ?_
    refine q_icmp_ge (tgt := 17) eX2_markOut_7 (by decide) (fun _ => ?_) (fun _ => ?_)
    · exact q_return eX2_markOut_17 rfl
    · refine q_aload_n 0 eX2_markOut_10 rfl rfl ?_
      refine q_getG (v := 7) eX2_markOut_11 fl_2_18 tC_3 rfl gC_3_1 ?_
      refine q_iload_n 1 eX2_markOut_14 rfl rfl ?_
      refine q_iconst eX2_markOut_15 kiconst_1 ?_
      refine q_zast eX2_markOut_16 tC_7 nC_7 ?_
      refine q_ltW (fun w1 => ?_)
      exact q_return eX2_markOut_17 rfl
def fX2_findOut_n59 (rec23 : Int32 → Int32 → q_W → Option (Unit × q_W)) (x1 : Int32) (x2 : Int32) (w : q_W) : Option (Unit × q_W) :=
  q_lt (x2 + 1) fun y1 =>
  rec23 x1 y1 w
set_option maxHeartbeats 4000000 in
set_option maxRecDepth 100000 in
theorem jX2_findOut_n59 (X : q_X) (l : Launch) (rec23 : Int32 → Int32 → q_W → Option (Unit × q_W)) (hr23 : ∀ x1 x2 w, q_J X S_C l mX2_findOut 1 q_tV 23 [(0, .ref 3), (1, .int x1), (2, .int x2)] [] w (rec23 x1 x2 w)) (x1 : Int32) (x2 : Int32) (w : q_W) : q_J X S_C l mX2_findOut 1 q_tV 59 [(0, .ref 3), (1, .int x1), (2, .int x2)] [] w (fX2_findOut_n59 rec23 x1 x2 w) := by
  refine q_ltE (fun y1 hy1 => ?_)
  refine q_iinc (v := y1) (lv' := [(2, .int y1), (0, .ref 3), (1, .int x1)]) 2 eX2_findOut_59 rfl hy1 (by decide) rfl ?_
  refine q_goto (tgt := 23) eX2_findOut_62 (by decide) ?_
  exact q_sub [1, 2, 0] rfl (hr23 x1 y1 w)
def fX2_findOut_h23 (rec23 : Int32 → Int32 → q_W → Option (Unit × q_W)) (x1 : Int32) (x2 : Int32) (w : q_W) : Option (Unit × q_W) :=
  if x1 ≤ x2 then
    some ((), w)
  else
    if 120 ≤ x2 then
      some ((), w)
    else
      q_b (fX6_kindOf 4 x2 w) fun r1 w2 =>
      if r1 = 5 then
        q_b (fX6_numberOf 4 x2 0 w2) fun r3 w4 =>
        q_b (fX2_markOut r3 w4) fun r5 w6 =>
        fX2_findOut_n59 rec23 x1 x2 w6
      else
        fX2_findOut_n59 rec23 x1 x2 w2
def fX2_findOut_l23 : Int32 → Int32 → q_W → Option (Unit × q_W) := q_it q_N (fX2_findOut_h23) (fun _ _ _ => none)
set_option maxHeartbeats 4000000 in
set_option maxRecDepth 100000 in
theorem jX2_findOut_h23 (X : q_X) (l : Launch) (rec23 : Int32 → Int32 → q_W → Option (Unit × q_W)) (hr23 : ∀ x1 x2 w, q_J X S_C l mX2_findOut 1 q_tV 23 [(0, .ref 3), (1, .int x1), (2, .int x2)] [] w (rec23 x1 x2 w)) : ∀ x1 x2 w, q_J X S_C l mX2_findOut 1 q_tV 23 [(0, .ref 3), (1, .int x1), (2, .int x2)] [] w (fX2_findOut_h23 rec23 x1 x2 w) := by
  intro x1 x2 w
  refine q_iload_n 2 eX2_findOut_23 rfl rfl ?_
  refine q_iload_n 1 eX2_findOut_24 rfl rfl ?_
  refine q_icmp_ge (tgt := 65) eX2_findOut_25 (by decide) (fun _ => ?_) (fun _ => ?_)
  · exact q_return eX2_findOut_65 rfl
  · refine q_iload_n 2 eX2_findOut_28 rfl rfl ?_
    refine q_bipush eX2_findOut_29 kbipush_120 ?_
    refine q_icmp_ge (tgt := 65) eX2_findOut_31 (by decide) (fun _ => ?_) (fun _ => ?_)
    · exact q_return eX2_findOut_65 rfl
    · refine q_aload_n 0 eX2_findOut_34 rfl rfl ?_
      refine q_getG (v := 4) eX2_findOut_35 fl_2_12 tC_3 rfl gC_3_0 ?_
      refine q_iload_n 2 eX2_findOut_38 rfl rfl ?_
      refine q_callVI (As := [.int x2]) (st := []) eX2_findOut_39 cv_2_49 (kX6_kindOf X l 4 x2 w) tC_4 rfl (by decide) rfl rfl (Nat.le_of_ble_eq_true rfl) (by decide) (fun r1 w2 => ?_)
      refine q_iconst eX2_findOut_42 kiconst_5 ?_
      refine q_icmp_ne (tgt := 59) eX2_findOut_43 (by decide) (fun _ => ?_) (fun _ => ?_)
      · refine q_aload_n 0 eX2_findOut_46 rfl rfl ?_
        refine q_aload_n 0 eX2_findOut_47 rfl rfl ?_
        refine q_getG (v := 4) eX2_findOut_48 fl_2_12 tC_3 rfl gC_3_0 ?_
        refine q_iload_n 2 eX2_findOut_51 rfl rfl ?_
        refine q_iconst eX2_findOut_52 kiconst_0 ?_
        refine q_callVI (As := [.int x2, .int 0]) (st := [.ref 3]) eX2_findOut_53 cv_2_72 (kX6_numberOf X l 4 x2 0 w2) tC_4 rfl (by decide) rfl rfl (Nat.le_of_ble_eq_true rfl) (by decide) (fun r3 w4 => ?_)
        refine q_callVV (As := [.int r3]) (st := []) eX2_findOut_56 cv_2_76 (kX2_markOut X l r3 w4) tC_3 rfl (by decide) rfl rfl (Nat.le_of_ble_eq_true rfl) (by decide) (fun r5 w6 => ?_)
        exact q_sub [0, 1, 2] rfl (jX2_findOut_n59 X l rec23 hr23 x1 x2 w6)
      · exact q_sub [0, 1, 2] rfl (jX2_findOut_n59 X l rec23 hr23 x1 x2 w2)
set_option maxHeartbeats 4000000 in
set_option maxRecDepth 100000 in
theorem jX2_findOut_l23 (X : q_X) (l : Launch) : ∀ x1 x2 w, q_J X S_C l mX2_findOut 1 q_tV 23 [(0, .ref 3), (1, .int x1), (2, .int x2)] [] w (fX2_findOut_l23 x1 x2 w) := by
  exact q_it_ind (fun rc => ∀ x1 x2 w, q_J X S_C l mX2_findOut 1 q_tV 23 [(0, .ref 3), (1, .int x1), (2, .int x2)] [] w (rc x1 x2 w)) _ _ (fun _ _ _ => q_none) (fun rc hrc => jX2_findOut_h23 X l rc hrc) q_N
def fX2_findOut_h2 (rec2 : Int32 → Int32 → q_W → Option (Unit × q_W)) (x1 : Int32) (x2 : Int32) (w : q_W) : Option (Unit × q_W) :=
  if 120 ≤ x2 then
    fX2_findOut_l23 x1 0 w
  else
    if q_inb x2 120 then
    q_lt (q_sI w 7 (q_ix x2) (vp_nar .boolean 0)) fun w1 =>
    q_lt (x2 + 1) fun y2 =>
    rec2 x1 y2 w1
    else none
def fX2_findOut_l2 : Int32 → Int32 → q_W → Option (Unit × q_W) := q_it q_N (fX2_findOut_h2) (fun _ _ _ => none)
set_option maxHeartbeats 4000000 in
set_option maxRecDepth 100000 in
theorem jX2_findOut_h2 (X : q_X) (l : Launch) (rec2 : Int32 → Int32 → q_W → Option (Unit × q_W)) (hr2 : ∀ x1 x2 w, q_J X S_C l mX2_findOut 1 q_tV 2 [(0, .ref 3), (1, .int x1), (2, .int x2)] [] w (rec2 x1 x2 w)) : ∀ x1 x2 w, q_J X S_C l mX2_findOut 1 q_tV 2 [(0, .ref 3), (1, .int x1), (2, .int x2)] [] w (fX2_findOut_h2 rec2 x1 x2 w) := by
  intro x1 x2 w
  refine q_iload_n 2 eX2_findOut_2 rfl rfl ?_
  refine q_bipush eX2_findOut_3 kbipush_120 ?_
  refine q_icmp_ge (tgt := 21) eX2_findOut_5 (by decide) (fun _ => ?_) (fun _ => ?_)
  · refine q_iconst eX2_findOut_21 kiconst_0 ?_
    refine q_istore_n (lv' := [(2, .int 0), (0, .ref 3), (1, .int x1)]) eX2_findOut_22 rfl (by decide) rfl ?_
    exact q_sub [1, 2, 0] rfl (jX2_findOut_l23 X l x1 0 w)
  · refine q_aload_n 0 eX2_findOut_8 rfl rfl ?_
    refine q_getG (v := 7) eX2_findOut_9 fl_2_18 tC_3 rfl gC_3_1 ?_
    refine q_iload_n 2 eX2_findOut_12 rfl rfl ?_
    refine q_iconst eX2_findOut_13 kiconst_0 ?_
    refine q_zast eX2_findOut_14 tC_7 nC_7 ?_
    refine q_ltW (fun w1 => ?_)
    refine q_ltE (fun y2 hy2 => ?_)
    refine q_iinc (v := y2) (lv' := [(2, .int y2), (0, .ref 3), (1, .int x1)]) 2 eX2_findOut_15 rfl hy2 (by decide) rfl ?_
    refine q_goto (tgt := 2) eX2_findOut_18 (by decide) ?_
    exact q_sub [1, 2, 0] rfl (hr2 x1 y2 w1)
set_option maxHeartbeats 4000000 in
set_option maxRecDepth 100000 in
theorem jX2_findOut_l2 (X : q_X) (l : Launch) : ∀ x1 x2 w, q_J X S_C l mX2_findOut 1 q_tV 2 [(0, .ref 3), (1, .int x1), (2, .int x2)] [] w (fX2_findOut_l2 x1 x2 w) := by
  exact q_it_ind (fun rc => ∀ x1 x2 w, q_J X S_C l mX2_findOut 1 q_tV 2 [(0, .ref 3), (1, .int x1), (2, .int x2)] [] w (rc x1 x2 w)) _ _ (fun _ _ _ => q_none) (fun rc hrc => jX2_findOut_h2 X l rc hrc) q_N
def fX2_findOut (a1 : Int32) (w : q_W) : Option (Unit × q_W) :=
  fX2_findOut_l2 a1 0 w
set_option maxHeartbeats 4000000 in
set_option maxRecDepth 100000 in
theorem kX2_findOut (X : q_X) (l : Launch) (a1 : Int32) (w : q_W) : q_Ct X S_C l mX2_findOut 1 q_tV [.ref 3, .int a1] w (fX2_findOut a1 w) := by
  refine q_intro (lv := [(0, .ref 3), (1, .int a1)]) (by decide +kernel) rfl (Nat.le_of_ble_eq_true rfl) rfl ?_
  refine q_iconst eX2_findOut_0 kiconst_0 ?_
  refine q_istore_n (lv' := [(2, .int 0), (0, .ref 3), (1, .int a1)]) eX2_findOut_1 rfl (by decide) rfl ?_
  exact q_sub [1, 2, 0] rfl (jX2_findOut_l2 X l a1 0 w)
def fX2_isOut (a1 : Int32) (a2 : Int32) (w : q_W) : Option (Int32 × q_W) :=
  q_b (fX2_findOut a2 w) fun r1 w2 =>
  if a1 < 0 then
    some (0, w2)
  else
    if 120 ≤ a1 then
      some (0, w2)
    else
      if q_inb a1 120 then
      if (w2.1 7 (q_ix a1)) = 0 then
        some (0, w2)
      else
        some (1, w2)
      else none
set_option maxHeartbeats 4000000 in
set_option maxRecDepth 100000 in
theorem kX2_isOut (X : q_X) (l : Launch) (a1 : Int32) (a2 : Int32) (w : q_W) : q_Ct X S_C l mX2_isOut 2 q_tI [.ref 3, .int a1, .int a2] w (fX2_isOut a1 a2 w) := by
  refine q_intro (lv := [(0, .ref 3), (1, .int a1), (2, .int a2)]) (by decide +kernel) rfl (Nat.le_of_ble_eq_true rfl) rfl ?_
  refine q_aload_n 0 eX2_isOut_0 rfl rfl ?_
  refine q_iload_n 2 eX2_isOut_1 rfl rfl ?_
  refine q_callVV (As := [.int a2]) (st := []) eX2_isOut_2 cv_2_57 (kX2_findOut X l a2 w) tC_3 rfl (by decide) rfl rfl (Nat.le_of_ble_eq_true rfl) (by decide) (fun r1 w2 => ?_)
  refine q_iload_n 1 eX2_isOut_5 rfl rfl ?_
  refine q_if_lt (tgt := 28) eX2_isOut_6 (by decide) (fun _ => ?_) (fun _ => ?_)
  · refine q_iconst eX2_isOut_28 kiconst_0 ?_
    exact q_zret eX2_isOut_29 rfl rfl
  · refine q_iload_n 1 eX2_isOut_9 rfl rfl ?_
    refine q_bipush eX2_isOut_10 kbipush_120 ?_
    refine q_icmp_ge (tgt := 28) eX2_isOut_12 (by decide) (fun _ => ?_) (fun _ => ?_)
    · refine q_iconst eX2_isOut_28 kiconst_0 ?_
      exact q_zret eX2_isOut_29 rfl rfl
    · refine q_aload_n 0 eX2_isOut_15 rfl rfl ?_
      refine q_getG (v := 7) eX2_isOut_16 fl_2_18 tC_3 rfl gC_3_1 ?_
      refine q_iload_n 1 eX2_isOut_19 rfl rfl ?_
      refine q_zald eX2_isOut_20 tC_7 nC_7 ?_
      refine q_if_eq (tgt := 28) eX2_isOut_21 (by decide) (fun _ => ?_) (fun _ => ?_)
      · refine q_iconst eX2_isOut_28 kiconst_0 ?_
        exact q_zret eX2_isOut_29 rfl rfl
      · refine q_iconst eX2_isOut_24 kiconst_1 ?_
        refine q_goto (tgt := 29) eX2_isOut_25 (by decide) ?_
        exact q_zret eX2_isOut_29 rfl rfl
def fX2_laysKnown_n44 (rec9 : Int32 → Int32 → Int32 → q_W → Option (Int32 × q_W)) (x1 : Int32) (x2 : Int32) (x3 : Int32) (w : q_W) : Option (Int32 × q_W) :=
  q_lt (x3 + 1) fun y1 =>
  rec9 x1 x2 y1 w
set_option maxHeartbeats 4000000 in
set_option maxRecDepth 100000 in
theorem jX2_laysKnown_n44 (X : q_X) (l : Launch) (rec9 : Int32 → Int32 → Int32 → q_W → Option (Int32 × q_W)) (hr9 : ∀ x1 x2 x3 w, q_J X S_C l mX2_laysKnown 2 q_tI 9 [(0, .ref 3), (1, .int x1), (2, .int x2), (3, .int x3)] [] w (rec9 x1 x2 x3 w)) (x1 : Int32) (x2 : Int32) (x3 : Int32) (w : q_W) : q_J X S_C l mX2_laysKnown 2 q_tI 44 [(0, .ref 3), (1, .int x1), (2, .int x2), (3, .int x3)] [] w (fX2_laysKnown_n44 rec9 x1 x2 x3 w) := by
  refine q_ltE (fun y1 hy1 => ?_)
  refine q_iinc (v := y1) (lv' := [(3, .int y1), (0, .ref 3), (1, .int x1), (2, .int x2)]) 3 eX2_laysKnown_44 rfl hy1 (by decide) rfl ?_
  refine q_goto (tgt := 9) eX2_laysKnown_47 (by decide) ?_
  exact q_sub [1, 2, 3, 0] rfl (hr9 x1 x2 y1 w)
def fX2_laysKnown_h9 (rec9 : Int32 → Int32 → Int32 → q_W → Option (Int32 × q_W)) (x1 : Int32) (x2 : Int32) (x3 : Int32) (w : q_W) : Option (Int32 × q_W) :=
  if x1 ≤ x3 then
    some (x2, w)
  else
    if 120 ≤ x3 then
      some (x2, w)
    else
      if q_inb x3 120 then
      if (w.1 7 (q_ix x3)) = 0 then
        q_b (fX6_kindOf 4 x3 w) fun r1 w2 =>
        if r1 = 4 then
          q_lt (x2 + 1) fun y3 =>
          fX2_laysKnown_n44 rec9 x1 y3 x3 w2
        else
          fX2_laysKnown_n44 rec9 x1 x2 x3 w2
      else
        fX2_laysKnown_n44 rec9 x1 x2 x3 w
      else none
def fX2_laysKnown_l9 : Int32 → Int32 → Int32 → q_W → Option (Int32 × q_W) := q_it q_N (fX2_laysKnown_h9) (fun _ _ _ _ => none)
set_option maxHeartbeats 4000000 in
set_option maxRecDepth 100000 in
theorem jX2_laysKnown_h9 (X : q_X) (l : Launch) (rec9 : Int32 → Int32 → Int32 → q_W → Option (Int32 × q_W)) (hr9 : ∀ x1 x2 x3 w, q_J X S_C l mX2_laysKnown 2 q_tI 9 [(0, .ref 3), (1, .int x1), (2, .int x2), (3, .int x3)] [] w (rec9 x1 x2 x3 w)) : ∀ x1 x2 x3 w, q_J X S_C l mX2_laysKnown 2 q_tI 9 [(0, .ref 3), (1, .int x1), (2, .int x2), (3, .int x3)] [] w (fX2_laysKnown_h9 rec9 x1 x2 x3 w) := by
  intro x1 x2 x3 w
  refine q_iload_n 3 eX2_laysKnown_9 rfl rfl ?_
  refine q_iload_n 1 eX2_laysKnown_10 rfl rfl ?_
  refine q_icmp_ge (tgt := 50) eX2_laysKnown_11 (by decide) (fun _ => ?_) (fun _ => ?_)
  · refine q_iload_n 2 eX2_laysKnown_50 rfl rfl ?_
    exact q_ireturn eX2_laysKnown_51 rfl
  · refine q_iload_n 3 eX2_laysKnown_14 rfl rfl ?_
    refine q_bipush eX2_laysKnown_15 kbipush_120 ?_
    refine q_icmp_ge (tgt := 50) eX2_laysKnown_17 (by decide) (fun _ => ?_) (fun _ => ?_)
    · refine q_iload_n 2 eX2_laysKnown_50 rfl rfl ?_
      exact q_ireturn eX2_laysKnown_51 rfl
    · refine q_aload_n 0 eX2_laysKnown_20 rfl rfl ?_
      refine q_getG (v := 7) eX2_laysKnown_21 fl_2_18 tC_3 rfl gC_3_1 ?_
      refine q_iload_n 3 eX2_laysKnown_24 rfl rfl ?_
      refine q_zald eX2_laysKnown_25 tC_7 nC_7 ?_
      refine q_if_ne (tgt := 44) eX2_laysKnown_26 (by decide) (fun _ => ?_) (fun _ => ?_)
      · refine q_aload_n 0 eX2_laysKnown_29 rfl rfl ?_
        refine q_getG (v := 4) eX2_laysKnown_30 fl_2_12 tC_3 rfl gC_3_0 ?_
        refine q_iload_n 3 eX2_laysKnown_33 rfl rfl ?_
        refine q_callVI (As := [.int x3]) (st := []) eX2_laysKnown_34 cv_2_49 (kX6_kindOf X l 4 x3 w) tC_4 rfl (by decide) rfl rfl (Nat.le_of_ble_eq_true rfl) (by decide) (fun r1 w2 => ?_)
        refine q_iconst eX2_laysKnown_37 kiconst_4 ?_
        refine q_icmp_ne (tgt := 44) eX2_laysKnown_38 (by decide) (fun _ => ?_) (fun _ => ?_)
        · refine q_ltE (fun y3 hy3 => ?_)
          refine q_iinc (v := y3) (lv' := [(2, .int y3), (0, .ref 3), (1, .int x1), (3, .int x3)]) 2 eX2_laysKnown_41 rfl hy3 (by decide) rfl ?_
          exact q_sub [1, 2, 0, 3] rfl (jX2_laysKnown_n44 X l rec9 hr9 x1 y3 x3 w2)
        · exact q_sub [0, 1, 2, 3] rfl (jX2_laysKnown_n44 X l rec9 hr9 x1 x2 x3 w2)
      · exact q_sub [0, 1, 2, 3] rfl (jX2_laysKnown_n44 X l rec9 hr9 x1 x2 x3 w)
set_option maxHeartbeats 4000000 in
set_option maxRecDepth 100000 in
theorem jX2_laysKnown_l9 (X : q_X) (l : Launch) : ∀ x1 x2 x3 w, q_J X S_C l mX2_laysKnown 2 q_tI 9 [(0, .ref 3), (1, .int x1), (2, .int x2), (3, .int x3)] [] w (fX2_laysKnown_l9 x1 x2 x3 w) := by
  exact q_it_ind (fun rc => ∀ x1 x2 x3 w, q_J X S_C l mX2_laysKnown 2 q_tI 9 [(0, .ref 3), (1, .int x1), (2, .int x2), (3, .int x3)] [] w (rc x1 x2 x3 w)) _ _ (fun _ _ _ _ => q_none) (fun rc hrc => jX2_laysKnown_h9 X l rc hrc) q_N
def fX2_laysKnown (a1 : Int32) (w : q_W) : Option (Int32 × q_W) :=
  q_b (fX2_findOut a1 w) fun r1 w2 =>
  fX2_laysKnown_l9 a1 0 0 w2
set_option maxHeartbeats 4000000 in
set_option maxRecDepth 100000 in
theorem kX2_laysKnown (X : q_X) (l : Launch) (a1 : Int32) (w : q_W) : q_Ct X S_C l mX2_laysKnown 2 q_tI [.ref 3, .int a1] w (fX2_laysKnown a1 w) := by
  refine q_intro (lv := [(0, .ref 3), (1, .int a1)]) (by decide +kernel) rfl (Nat.le_of_ble_eq_true rfl) rfl ?_
  refine q_aload_n 0 eX2_laysKnown_0 rfl rfl ?_
  refine q_iload_n 1 eX2_laysKnown_1 rfl rfl ?_
  refine q_callVV (As := [.int a1]) (st := []) eX2_laysKnown_2 cv_2_57 (kX2_findOut X l a1 w) tC_3 rfl (by decide) rfl rfl (Nat.le_of_ble_eq_true rfl) (by decide) (fun r1 w2 => ?_)
  refine q_iconst eX2_laysKnown_5 kiconst_0 ?_
  refine q_istore_n (lv' := [(2, .int 0), (0, .ref 3), (1, .int a1)]) eX2_laysKnown_6 rfl (by decide) rfl ?_
  refine q_iconst eX2_laysKnown_7 kiconst_0 ?_
  refine q_istore_n (lv' := [(3, .int 0), (2, .int 0), (0, .ref 3), (1, .int a1)]) eX2_laysKnown_8 rfl (by decide) rfl ?_
  exact q_sub [2, 3, 1, 0] rfl (jX2_laysKnown_l9 X l a1 0 0 w2)
def fX6_isStroke (q0 : Nat) (a1 : Int32) (w : q_W) : Option (Int32 × q_W) :=
  if cC q0 = 6 then
  q_b (fX6_kindOf q0 a1 w) fun r1 w2 =>
  if r1 < 0 then
    some (0, w2)
  else
    if 3 < r1 then
      some (0, w2)
    else
      some (1, w2)
  else none
set_option maxHeartbeats 4000000 in
set_option maxRecDepth 100000 in
theorem kX6_isStroke (X : q_X) (l : Launch) (q0 : Nat) (a1 : Int32) (w : q_W) : q_Ct X S_C l mX6_isStroke 1 q_tI [.ref q0, .int a1] w (fX6_isStroke q0 a1 w) := by
  refine q_intro (lv := [(0, .ref q0), (1, .int a1)]) (by decide +kernel) rfl (Nat.le_of_ble_eq_true rfl) rfl ?_
  refine q_ck (fun h0 => ?_)
  refine q_aload_n 0 eX6_isStroke_0 rfl rfl ?_
  refine q_iload_n 1 eX6_isStroke_1 rfl rfl ?_
  refine q_callVI (As := [.int a1]) (st := []) eX6_isStroke_2 cv_6_45 (kX6_kindOf X l q0 a1 w) h0 rfl (by decide) rfl rfl (Nat.le_of_ble_eq_true rfl) (by decide) (fun r1 w2 => ?_)
  refine q_istore_n (lv' := [(2, .int r1), (0, .ref q0), (1, .int a1)]) eX6_isStroke_5 rfl (by decide) rfl ?_
  refine q_iload_n 0 eX6_isStroke_6 rfl rfl ?_
  refine q_if_lt (tgt := 19) eX6_isStroke_7 (by decide) (fun _ => ?_) (fun _ => ?_)
  · refine q_iconst eX6_isStroke_19 kiconst_0 ?_
    exact q_zret eX6_isStroke_20 rfl rfl
  · refine q_iload_n 0 eX6_isStroke_10 rfl rfl ?_
    refine q_iconst eX6_isStroke_11 kiconst_3 ?_
    refine q_icmp_gt (tgt := 19) eX6_isStroke_12 (by decide) (fun _ => ?_) (fun _ => ?_)
    · refine q_iconst eX6_isStroke_19 kiconst_0 ?_
      exact q_zret eX6_isStroke_20 rfl rfl
    · refine q_iconst eX6_isStroke_15 kiconst_1 ?_
      refine q_goto (tgt := 20) eX6_isStroke_16 (by decide) ?_
      exact q_zret eX6_isStroke_20 rfl rfl
def fX2_pickStrokes_n98 (rec20 : Int32 → Int32 → Int32 → Int32 → q_W → Option (Int32 × q_W)) (x2 : Int32) (x3 : Int32) (x4 : Int32) (x5 : Int32) (w : q_W) : Option (Int32 × q_W) :=
  q_lt (x5 + 1) fun y1 =>
  rec20 x2 x3 x4 y1 w
set_option maxHeartbeats 4000000 in
set_option maxRecDepth 100000 in
theorem jX2_pickStrokes_n98 (X : q_X) (l : Launch) (rec20 : Int32 → Int32 → Int32 → Int32 → q_W → Option (Int32 × q_W)) (hr20 : ∀ x2 x3 x4 x5 w, q_J X S_C l mX2_pickStrokes 2 q_tI 20 [(0, .ref 3), (1, .ref 12), (2, .int x2), (3, .int x3), (4, .int x4), (5, .int x5)] [] w (rec20 x2 x3 x4 x5 w)) (x2 : Int32) (x3 : Int32) (x4 : Int32) (x5 : Int32) (w : q_W) : q_J X S_C l mX2_pickStrokes 2 q_tI 98 [(0, .ref 3), (1, .ref 12), (2, .int x2), (3, .int x3), (4, .int x4), (5, .int x5)] [] w (fX2_pickStrokes_n98 rec20 x2 x3 x4 x5 w) := by
  refine q_ltE (fun y1 hy1 => ?_)
  refine q_iinc (v := y1) (lv' := [(5, .int y1), (0, .ref 3), (1, .ref 12), (2, .int x2), (3, .int x3), (4, .int x4)]) 5 eX2_pickStrokes_98 rfl hy1 (by decide) rfl ?_
  refine q_goto (tgt := 20) eX2_pickStrokes_101 (by decide) ?_
  exact q_sub [1, 2, 3, 4, 5, 0] rfl (hr20 x2 x3 x4 y1 w)
def fX2_pickStrokes_h20 (rec20 : Int32 → Int32 → Int32 → Int32 → q_W → Option (Int32 × q_W)) (x2 : Int32) (x3 : Int32) (x4 : Int32) (x5 : Int32) (w : q_W) : Option (Int32 × q_W) :=
  if x2 ≤ x5 then
    some ((-1), w)
  else
    if 120 ≤ x5 then
      some ((-1), w)
    else
      if q_inb x5 120 then
      if (w.1 7 (q_ix x5)) = 0 then
        q_b (fX6_kindOf 4 x5 w) fun r1 w2 =>
        if r1 = 4 then
          if x4 = x3 then
            some (x5, w2)
          else
            q_lt (x4 + 1) fun y3 =>
            fX2_pickStrokes_n98 rec20 x2 x3 y3 x5 w2
        else
          if x4 = x3 then
            q_b (fX6_isStroke 4 x5 w2) fun r4 w5 =>
            if r4 = 0 then
              fX2_pickStrokes_n98 rec20 x2 x3 x4 x5 w5
            else
              q_b (fX0_pick x5 w5) fun r6 w7 =>
              fX2_pickStrokes_n98 rec20 x2 x3 x4 x5 w7
          else
            fX2_pickStrokes_n98 rec20 x2 x3 x4 x5 w2
      else
        fX2_pickStrokes_n98 rec20 x2 x3 x4 x5 w
      else none
def fX2_pickStrokes_l20 : Int32 → Int32 → Int32 → Int32 → q_W → Option (Int32 × q_W) := q_it q_N (fX2_pickStrokes_h20) (fun _ _ _ _ _ => none)
set_option maxHeartbeats 4000000 in
set_option maxRecDepth 100000 in
theorem jX2_pickStrokes_h20 (X : q_X) (l : Launch) (rec20 : Int32 → Int32 → Int32 → Int32 → q_W → Option (Int32 × q_W)) (hr20 : ∀ x2 x3 x4 x5 w, q_J X S_C l mX2_pickStrokes 2 q_tI 20 [(0, .ref 3), (1, .ref 12), (2, .int x2), (3, .int x3), (4, .int x4), (5, .int x5)] [] w (rec20 x2 x3 x4 x5 w)) : ∀ x2 x3 x4 x5 w, q_J X S_C l mX2_pickStrokes 2 q_tI 20 [(0, .ref 3), (1, .ref 12), (2, .int x2), (3, .int x3), (4, .int x4), (5, .int x5)] [] w (fX2_pickStrokes_h20 rec20 x2 x3 x4 x5 w) := by
  intro x2 x3 x4 x5 w
  refine q_iload 5 eX2_pickStrokes_20 rfl ?_
  refine q_iload_n 2 eX2_pickStrokes_22 rfl rfl ?_
  refine q_icmp_ge (tgt := 104) eX2_pickStrokes_23 (by decide) (fun _ => ?_) (fun _ => ?_)
  · refine q_iconst eX2_pickStrokes_104 kiconst_m1 ?_
    exact q_ireturn eX2_pickStrokes_105 rfl
  · refine q_iload 5 eX2_pickStrokes_26 rfl ?_
    refine q_bipush eX2_pickStrokes_28 kbipush_120 ?_
    refine q_icmp_ge (tgt := 104) eX2_pickStrokes_30 (by decide) (fun _ => ?_) (fun _ => ?_)
    · refine q_iconst eX2_pickStrokes_104 kiconst_m1 ?_
      exact q_ireturn eX2_pickStrokes_105 rfl
    · refine q_aload_n 0 eX2_pickStrokes_33 rfl rfl ?_
      refine q_getG (v := 7) eX2_pickStrokes_34 fl_2_18 tC_3 rfl gC_3_1 ?_
      refine q_iload 5 eX2_pickStrokes_37 rfl ?_
      refine q_zald eX2_pickStrokes_39 tC_7 nC_7 ?_
      refine q_if_eq (tgt := 46) eX2_pickStrokes_40 (by decide) (fun _ => ?_) (fun _ => ?_)
      · refine q_aload_n 0 eX2_pickStrokes_46 rfl rfl ?_
        refine q_getG (v := 4) eX2_pickStrokes_47 fl_2_12 tC_3 rfl gC_3_0 ?_
        refine q_iload 5 eX2_pickStrokes_50 rfl ?_
        refine q_callVI (As := [.int x5]) (st := []) eX2_pickStrokes_52 cv_2_49 (kX6_kindOf X l 4 x5 w) tC_4 rfl (by decide) rfl rfl (Nat.le_of_ble_eq_true rfl) (by decide) (fun r1 w2 => ?_)
        refine q_iconst eX2_pickStrokes_55 kiconst_4 ?_
        refine q_icmp_ne (tgt := 74) eX2_pickStrokes_56 (by decide) (fun _ => ?_) (fun _ => ?_)
        · refine q_iload 4 eX2_pickStrokes_59 rfl ?_
          refine q_iload_n 3 eX2_pickStrokes_61 rfl rfl ?_
          refine q_icmp_ne (tgt := 68) eX2_pickStrokes_62 (by decide) (fun _ => ?_) (fun _ => ?_)
          · refine q_iload 5 eX2_pickStrokes_65 rfl ?_
            exact q_ireturn eX2_pickStrokes_67 rfl
          · refine q_ltE (fun y3 hy3 => ?_)
            refine q_iinc (v := y3) (lv' := [(4, .int y3), (0, .ref 3), (1, .ref 12), (2, .int x2), (3, .int x3), (5, .int x5)]) 4 eX2_pickStrokes_68 rfl hy3 (by decide) rfl ?_
            refine q_goto (tgt := 98) eX2_pickStrokes_71 (by decide) ?_
            exact q_sub [1, 2, 3, 4, 0, 5] rfl (jX2_pickStrokes_n98 X l rec20 hr20 x2 x3 y3 x5 w2)
        · refine q_iload 4 eX2_pickStrokes_74 rfl ?_
          refine q_iload_n 3 eX2_pickStrokes_76 rfl rfl ?_
          refine q_icmp_ne (tgt := 98) eX2_pickStrokes_77 (by decide) (fun _ => ?_) (fun _ => ?_)
          · refine q_aload_n 0 eX2_pickStrokes_80 rfl rfl ?_
            refine q_getG (v := 4) eX2_pickStrokes_81 fl_2_12 tC_3 rfl gC_3_0 ?_
            refine q_iload 5 eX2_pickStrokes_84 rfl ?_
            refine q_callVI (As := [.int x5]) (st := []) eX2_pickStrokes_86 cv_2_66 (kX6_isStroke X l 4 x5 w2) tC_4 rfl (by decide) rfl rfl (Nat.le_of_ble_eq_true rfl) (by decide) (fun r4 w5 => ?_)
            refine q_if_eq (tgt := 98) eX2_pickStrokes_89 (by decide) (fun _ => ?_) (fun _ => ?_)
            · exact q_sub [0, 1, 2, 3, 4, 5] rfl (jX2_pickStrokes_n98 X l rec20 hr20 x2 x3 x4 x5 w5)
            · refine q_aload_n 1 eX2_pickStrokes_92 rfl rfl ?_
              refine q_iload 5 eX2_pickStrokes_93 rfl ?_
              refine q_callVV (As := [.int x5]) (st := []) eX2_pickStrokes_95 cv_2_69 (kX0_pick X l x5 w5) tC_12 rfl (by decide) rfl rfl (Nat.le_of_ble_eq_true rfl) (by decide) (fun r6 w7 => ?_)
              exact q_sub [0, 1, 2, 3, 4, 5] rfl (jX2_pickStrokes_n98 X l rec20 hr20 x2 x3 x4 x5 w7)
          · exact q_sub [0, 1, 2, 3, 4, 5] rfl (jX2_pickStrokes_n98 X l rec20 hr20 x2 x3 x4 x5 w2)
      · refine q_goto (tgt := 98) eX2_pickStrokes_43 (by decide) ?_
        exact q_sub [0, 1, 2, 3, 4, 5] rfl (jX2_pickStrokes_n98 X l rec20 hr20 x2 x3 x4 x5 w)
set_option maxHeartbeats 4000000 in
set_option maxRecDepth 100000 in
theorem jX2_pickStrokes_l20 (X : q_X) (l : Launch) : ∀ x2 x3 x4 x5 w, q_J X S_C l mX2_pickStrokes 2 q_tI 20 [(0, .ref 3), (1, .ref 12), (2, .int x2), (3, .int x3), (4, .int x4), (5, .int x5)] [] w (fX2_pickStrokes_l20 x2 x3 x4 x5 w) := by
  exact q_it_ind (fun rc => ∀ x2 x3 x4 x5 w, q_J X S_C l mX2_pickStrokes 2 q_tI 20 [(0, .ref 3), (1, .ref 12), (2, .int x2), (3, .int x3), (4, .int x4), (5, .int x5)] [] w (rc x2 x3 x4 x5 w)) _ _ (fun _ _ _ _ _ => q_none) (fun rc hrc => jX2_pickStrokes_h20 X l rc hrc) q_N
def fX2_pickStrokes (a2 : Int32) (a3 : Int32) (w : q_W) : Option (Int32 × q_W) :=
  q_b (fX2_findOut a2 w) fun r1 w2 =>
  q_b (fX0_begin 4 a3 w2) fun r3 w4 =>
  fX2_pickStrokes_l20 a2 a3 0 0 w4
set_option maxHeartbeats 4000000 in
set_option maxRecDepth 100000 in
theorem kX2_pickStrokes (X : q_X) (l : Launch) (a2 : Int32) (a3 : Int32) (w : q_W) : q_Ct X S_C l mX2_pickStrokes 2 q_tI [.ref 3, .ref 12, .int a2, .int a3] w (fX2_pickStrokes a2 a3 w) := by
  refine q_intro (lv := [(0, .ref 3), (1, .ref 12), (2, .int a2), (3, .int a3)]) (by decide +kernel) rfl (Nat.le_of_ble_eq_true rfl) rfl ?_
  refine q_aload_n 0 eX2_pickStrokes_0 rfl rfl ?_
  refine q_iload_n 2 eX2_pickStrokes_1 rfl rfl ?_
  refine q_callVV (As := [.int a2]) (st := []) eX2_pickStrokes_2 cv_2_57 (kX2_findOut X l a2 w) tC_3 rfl (by decide) rfl rfl (Nat.le_of_ble_eq_true rfl) (by decide) (fun r1 w2 => ?_)
  refine q_aload_n 1 eX2_pickStrokes_5 rfl rfl ?_
  refine q_aload_n 0 eX2_pickStrokes_6 rfl rfl ?_
  refine q_getG (v := 4) eX2_pickStrokes_7 fl_2_12 tC_3 rfl gC_3_0 ?_
  refine q_iload_n 3 eX2_pickStrokes_10 rfl rfl ?_
  refine q_callVV (As := [.ref 4, .int a3]) (st := []) eX2_pickStrokes_11 cv_2_60 (kX0_begin X l 4 a3 w2) tC_12 rfl (by decide) rfl rfl (Nat.le_of_ble_eq_true rfl) (by decide) (fun r3 w4 => ?_)
  refine q_iconst eX2_pickStrokes_14 kiconst_0 ?_
  refine q_istore (lv' := [(4, .int 0), (0, .ref 3), (1, .ref 12), (2, .int a2), (3, .int a3)]) eX2_pickStrokes_15 (by decide) rfl ?_
  refine q_iconst eX2_pickStrokes_17 kiconst_0 ?_
  refine q_istore (lv' := [(5, .int 0), (4, .int 0), (0, .ref 3), (1, .ref 12), (2, .int a2), (3, .int a3)]) eX2_pickStrokes_18 (by decide) rfl ?_
  exact q_sub [2, 3, 4, 5, 1, 0] rfl (jX2_pickStrokes_l20 X l a2 a3 0 0 w4)
def fX3_bestMade (w : q_W) : Option (Int32 × q_W) :=
  some ((w.1 37 10), w)
set_option maxHeartbeats 4000000 in
set_option maxRecDepth 100000 in
theorem kX3_bestMade (X : q_X) (l : Launch) (w : q_W) : q_Ct X S_C l mX3_bestMade 0 q_tI [.ref 37] w (fX3_bestMade w) := by
  refine q_intro (lv := [(0, .ref 37)]) (by decide +kernel) rfl (Nat.le_of_ble_eq_true rfl) rfl ?_
  refine q_aload_n 0 eX3_bestMade_0 rfl rfl ?_
  refine q_getI eX3_bestMade_1 fl_3_45 tC_37 rfl ?_
  exact q_ireturn eX3_bestMade_4 rfl
def fX3_bestOff (w : q_W) : Option (Int32 × q_W) :=
  some ((w.1 37 11), w)
set_option maxHeartbeats 4000000 in
set_option maxRecDepth 100000 in
theorem kX3_bestOff (X : q_X) (l : Launch) (w : q_W) : q_Ct X S_C l mX3_bestOff 0 q_tI [.ref 37] w (fX3_bestOff w) := by
  refine q_intro (lv := [(0, .ref 37)]) (by decide +kernel) rfl (Nat.le_of_ble_eq_true rfl) rfl ?_
  refine q_aload_n 0 eX3_bestOff_0 rfl rfl ?_
  refine q_getI eX3_bestOff_1 fl_3_49 tC_37 rfl ?_
  exact q_ireturn eX3_bestOff_4 rfl
def fX3_foundLength (w : q_W) : Option (Int32 × q_W) :=
  some ((w.1 37 9), w)
set_option maxHeartbeats 4000000 in
set_option maxRecDepth 100000 in
theorem kX3_foundLength (X : q_X) (l : Launch) (w : q_W) : q_Ct X S_C l mX3_foundLength 0 q_tI [.ref 37] w (fX3_foundLength w) := by
  refine q_intro (lv := [(0, .ref 37)]) (by decide +kernel) rfl (Nat.le_of_ble_eq_true rfl) rfl ?_
  refine q_aload_n 0 eX3_foundLength_0 rfl rfl ?_
  refine q_getI eX3_foundLength_1 fl_3_52 tC_37 rfl ?_
  exact q_ireturn eX3_foundLength_4 rfl
def fX3_foundAt (a1 : Int32) (w : q_W) : Option (Int32 × q_W) :=
  if a1 < 0 then
    some ((-1), w)
  else
    if 3 ≤ a1 then
      some ((-1), w)
    else
      if q_inb a1 3 then
      some ((w.1 42 (q_ix a1)), w)
      else none
set_option maxHeartbeats 4000000 in
set_option maxRecDepth 100000 in
theorem kX3_foundAt (X : q_X) (l : Launch) (a1 : Int32) (w : q_W) : q_Ct X S_C l mX3_foundAt 0 q_tI [.ref 37, .int a1] w (fX3_foundAt a1 w) := by
  refine q_intro (lv := [(0, .ref 37), (1, .int a1)]) (by decide +kernel) rfl (Nat.le_of_ble_eq_true rfl) rfl ?_
  refine q_iload_n 1 eX3_foundAt_0 rfl rfl ?_
  refine q_if_lt (tgt := 18) eX3_foundAt_1 (by decide) (fun _ => ?_) (fun _ => ?_)
  · refine q_iconst eX3_foundAt_18 kiconst_m1 ?_
    exact q_ireturn eX3_foundAt_19 rfl
  · refine q_iload_n 1 eX3_foundAt_4 rfl rfl ?_
    refine q_iconst eX3_foundAt_5 kiconst_3 ?_
    refine q_icmp_ge (tgt := 18) eX3_foundAt_6 (by decide) (fun _ => ?_) (fun _ => ?_)
    · refine q_iconst eX3_foundAt_18 kiconst_m1 ?_
      exact q_ireturn eX3_foundAt_19 rfl
    · refine q_aload_n 0 eX3_foundAt_9 rfl rfl ?_
      refine q_getG (v := 42) eX3_foundAt_10 fl_3_26 tC_37 rfl gC_37_8 ?_
      refine q_iload_n 1 eX3_foundAt_13 rfl rfl ?_
      refine q_iald eX3_foundAt_14 tC_42 nC_42 ?_
      refine q_goto (tgt := 19) eX3_foundAt_15 (by decide) ?_
      exact q_ireturn eX3_foundAt_19 rfl
def fX3_pickAll_h2 (rec2 : Int32 → Int32 → Int32 → q_W → Option (Unit × q_W)) (x1 : Int32) (x2 : Int32) (x3 : Int32) (w : q_W) : Option (Unit × q_W) :=
  if x2 ≤ x3 then
    some ((), w)
  else
    q_b (fX0_pick (x1 + x3) w) fun r1 w2 =>
    q_lt (x3 + 1) fun y3 =>
    rec2 x1 x2 y3 w2
def fX3_pickAll_l2 : Int32 → Int32 → Int32 → q_W → Option (Unit × q_W) := q_it q_N (fX3_pickAll_h2) (fun _ _ _ _ => none)
set_option maxHeartbeats 4000000 in
set_option maxRecDepth 100000 in
theorem jX3_pickAll_h2 (X : q_X) (l : Launch) (rec2 : Int32 → Int32 → Int32 → q_W → Option (Unit × q_W)) (hr2 : ∀ x1 x2 x3 w, q_J X S_C l mX3_pickAll 1 q_tV 2 [(0, .ref 37), (1, .int x1), (2, .int x2), (3, .int x3)] [] w (rec2 x1 x2 x3 w)) : ∀ x1 x2 x3 w, q_J X S_C l mX3_pickAll 1 q_tV 2 [(0, .ref 37), (1, .int x1), (2, .int x2), (3, .int x3)] [] w (fX3_pickAll_h2 rec2 x1 x2 x3 w) := by
  intro x1 x2 x3 w
  refine q_iload_n 3 eX3_pickAll_2 rfl rfl ?_
  refine q_iload_n 2 eX3_pickAll_3 rfl rfl ?_
  refine q_icmp_ge (tgt := 23) eX3_pickAll_4 (by decide) (fun _ => ?_) (fun _ => ?_)
  · exact q_return eX3_pickAll_23 rfl
  · refine q_aload_n 0 eX3_pickAll_7 rfl rfl ?_
    refine q_getG (v := 12) eX3_pickAll_8 fl_3_37 tC_37 rfl gC_37_2 ?_
    refine q_iload_n 1 eX3_pickAll_11 rfl rfl ?_
    refine q_iload_n 3 eX3_pickAll_12 rfl rfl ?_
    refine q_iadd eX3_pickAll_13 ?_
    refine q_callVV (As := [.int (x1 + x3)]) (st := []) eX3_pickAll_14 cv_3_95 (kX0_pick X l (x1 + x3) w) tC_12 rfl (by decide) rfl rfl (Nat.le_of_ble_eq_true rfl) (by decide) (fun r1 w2 => ?_)
    refine q_ltE (fun y3 hy3 => ?_)
    refine q_iinc (v := y3) (lv' := [(3, .int y3), (0, .ref 37), (1, .int x1), (2, .int x2)]) 3 eX3_pickAll_17 rfl hy3 (by decide) rfl ?_
    refine q_goto (tgt := 2) eX3_pickAll_20 (by decide) ?_
    exact q_sub [1, 2, 3, 0] rfl (hr2 x1 x2 y3 w2)
set_option maxHeartbeats 4000000 in
set_option maxRecDepth 100000 in
theorem jX3_pickAll_l2 (X : q_X) (l : Launch) : ∀ x1 x2 x3 w, q_J X S_C l mX3_pickAll 1 q_tV 2 [(0, .ref 37), (1, .int x1), (2, .int x2), (3, .int x3)] [] w (fX3_pickAll_l2 x1 x2 x3 w) := by
  exact q_it_ind (fun rc => ∀ x1 x2 x3 w, q_J X S_C l mX3_pickAll 1 q_tV 2 [(0, .ref 37), (1, .int x1), (2, .int x2), (3, .int x3)] [] w (rc x1 x2 x3 w)) _ _ (fun _ _ _ _ => q_none) (fun rc hrc => jX3_pickAll_h2 X l rc hrc) q_N
def fX3_pickAll (a1 : Int32) (a2 : Int32) (w : q_W) : Option (Unit × q_W) :=
  fX3_pickAll_l2 a1 a2 0 w
set_option maxHeartbeats 4000000 in
set_option maxRecDepth 100000 in
theorem kX3_pickAll (X : q_X) (l : Launch) (a1 : Int32) (a2 : Int32) (w : q_W) : q_Ct X S_C l mX3_pickAll 1 q_tV [.ref 37, .int a1, .int a2] w (fX3_pickAll a1 a2 w) := by
  refine q_intro (lv := [(0, .ref 37), (1, .int a1), (2, .int a2)]) (by decide +kernel) rfl (Nat.le_of_ble_eq_true rfl) rfl ?_
  refine q_iconst eX3_pickAll_0 kiconst_0 ?_
  refine q_istore_n (lv' := [(3, .int 0), (0, .ref 37), (1, .int a1), (2, .int a2)]) eX3_pickAll_1 rfl (by decide) rfl ?_
  exact q_sub [1, 2, 3, 0] rfl (jX3_pickAll_l2 X l a1 a2 0 w)
def fX8_pointX (q0 : Nat) (a1 : Int32) (w : q_W) : Option (Int32 × q_W) :=
  if cC q0 = 8 then
  some (((64 * (a1 / 16)) + 32), w)
  else none
set_option maxHeartbeats 4000000 in
set_option maxRecDepth 100000 in
theorem kX8_pointX (X : q_X) (l : Launch) (q0 : Nat) (a1 : Int32) (w : q_W) : q_Ct X S_C l mX8_pointX 0 q_tI [.ref q0, .int a1] w (fX8_pointX q0 a1 w) := by
  refine q_intro (lv := [(0, .ref q0), (1, .int a1)]) (by decide +kernel) rfl (Nat.le_of_ble_eq_true rfl) rfl ?_
  refine q_ck (fun h0 => ?_)
  refine q_bipush eX8_pointX_0 kbipush_64 ?_
  refine q_iload_n 1 eX8_pointX_2 rfl rfl ?_
  refine q_bipush eX8_pointX_3 kbipush_16 ?_
  refine q_idivc eX8_pointX_5 (by decide) ?_
  refine q_imul eX8_pointX_6 ?_
  refine q_bipush eX8_pointX_7 kbipush_32 ?_
  refine q_iadd eX8_pointX_9 ?_
  exact q_ireturn eX8_pointX_10 rfl
def fX8_pointY (q0 : Nat) (a1 : Int32) (w : q_W) : Option (Int32 × q_W) :=
  if cC q0 = 8 then
  q_lt (a1 / 16) fun y1 =>
  if (y1 - y1 / 2 * 2) = 0 then
    some ((((64 * (a1 - a1 / 16 * 16)) + 32) + 0), w)
  else
    some ((((64 * (a1 - a1 / 16 * 16)) + 32) + (w.1 q0 6)), w)
  else none
set_option maxHeartbeats 4000000 in
set_option maxRecDepth 100000 in
theorem kX8_pointY (X : q_X) (l : Launch) (q0 : Nat) (a1 : Int32) (w : q_W) : q_Ct X S_C l mX8_pointY 0 q_tI [.ref q0, .int a1] w (fX8_pointY q0 a1 w) := by
  refine q_intro (lv := [(0, .ref q0), (1, .int a1)]) (by decide +kernel) rfl (Nat.le_of_ble_eq_true rfl) rfl ?_
  refine q_ck (fun h0 => ?_)
  refine q_bipush eX8_pointY_0 kbipush_64 ?_
  refine q_iload_n 1 eX8_pointY_2 rfl rfl ?_
  refine q_bipush eX8_pointY_3 kbipush_16 ?_
  refine q_iremc eX8_pointY_5 (by decide) ?_
  refine q_imul eX8_pointY_6 ?_
  refine q_bipush eX8_pointY_7 kbipush_32 ?_
  refine q_iadd eX8_pointY_9 ?_
  refine q_iload_n 1 eX8_pointY_10 rfl rfl ?_
  refine q_bipush eX8_pointY_11 kbipush_16 ?_
  refine q_idivc eX8_pointY_13 (by decide) ?_
  refine q_iconst eX8_pointY_14 kiconst_2 ?_
  refine q_ltI1 (fun y1 => ?_)
  refine q_iremc eX8_pointY_15 (by decide) ?_
  refine q_if_ne (tgt := 23) eX8_pointY_16 (by decide) (fun _ => ?_) (fun _ => ?_)
  · refine q_iconst eX8_pointY_19 kiconst_0 ?_
    refine q_goto (tgt := 27) eX8_pointY_20 (by decide) ?_
    refine q_iadd eX8_pointY_27 ?_
    exact q_ireturn eX8_pointY_28 rfl
  · refine q_aload_n 0 eX8_pointY_23 rfl rfl ?_
    refine q_getI eX8_pointY_24 fl_8_29 h0 rfl ?_
    refine q_iadd eX8_pointY_27 ?_
    exact q_ireturn eX8_pointY_28 rfl
def fX8_unlikeUpTo_n47 (q0 : Nat) (rec5 : Int32 → Int32 → Int32 → q_W → Option (Int32 × q_W)) (x1 : Int32) (x3 : Int32) (x4 : Int32) (w : q_W) : Option (Int32 × q_W) :=
  q_lt (x4 + 1) fun y1 =>
  rec5 x1 x3 y1 w
set_option maxHeartbeats 4000000 in
set_option maxRecDepth 100000 in
theorem jX8_unlikeUpTo_n47 (X : q_X) (l : Launch) (q0 : Nat) (h0 : cC q0 = 8) (rec5 : Int32 → Int32 → Int32 → q_W → Option (Int32 × q_W)) (hr5 : ∀ x1 x3 x4 w, q_J X S_C l mX8_unlikeUpTo 4 q_tI 5 [(0, .ref q0), (1, .int x1), (2, .ref 12), (3, .int x3), (4, .int x4)] [] w (rec5 x1 x3 x4 w)) (x1 : Int32) (x3 : Int32) (x4 : Int32) (w : q_W) : q_J X S_C l mX8_unlikeUpTo 4 q_tI 47 [(0, .ref q0), (1, .int x1), (2, .ref 12), (3, .int x3), (4, .int x4)] [] w (fX8_unlikeUpTo_n47 q0 rec5 x1 x3 x4 w) := by
  refine q_ltE (fun y1 hy1 => ?_)
  refine q_iinc (v := y1) (lv' := [(4, .int y1), (0, .ref q0), (1, .int x1), (2, .ref 12), (3, .int x3)]) 4 eX8_unlikeUpTo_47 rfl hy1 (by decide) rfl ?_
  refine q_goto (tgt := 5) eX8_unlikeUpTo_50 (by decide) ?_
  exact q_sub [1, 2, 3, 4, 0] rfl (hr5 x1 x3 y1 w)
def fX8_unlikeUpTo_h5 (q0 : Nat) (rec5 : Int32 → Int32 → Int32 → q_W → Option (Int32 × q_W)) (x1 : Int32) (x3 : Int32) (x4 : Int32) (w : q_W) : Option (Int32 × q_W) :=
  if 256 ≤ x4 then
    some (x3, w)
  else
    if x1 ≤ x3 then
      some (x3, w)
    else
      q_b (fX8_pointX q0 x4 w) fun r1 w2 =>
      q_b (fX8_pointY q0 x4 w2) fun r3 w4 =>
      q_b (fX0_colourOf r1 r3 w4) fun r5 w6 =>
      if q_inb x4 256 then
      if r5 = (w6.1 (fC q0 0) (q_ix x4)) then
        fX8_unlikeUpTo_n47 q0 rec5 x1 x3 x4 w6
      else
        q_lt (x3 + 1) fun y7 =>
        fX8_unlikeUpTo_n47 q0 rec5 x1 y7 x4 w6
      else none
def fX8_unlikeUpTo_l5 (q0 : Nat) : Int32 → Int32 → Int32 → q_W → Option (Int32 × q_W) := q_it q_N (fX8_unlikeUpTo_h5 q0) (fun _ _ _ _ => none)
set_option maxHeartbeats 4000000 in
set_option maxRecDepth 100000 in
theorem jX8_unlikeUpTo_h5 (X : q_X) (l : Launch) (q0 : Nat) (h0 : cC q0 = 8) (rec5 : Int32 → Int32 → Int32 → q_W → Option (Int32 × q_W)) (hr5 : ∀ x1 x3 x4 w, q_J X S_C l mX8_unlikeUpTo 4 q_tI 5 [(0, .ref q0), (1, .int x1), (2, .ref 12), (3, .int x3), (4, .int x4)] [] w (rec5 x1 x3 x4 w)) : ∀ x1 x3 x4 w, q_J X S_C l mX8_unlikeUpTo 4 q_tI 5 [(0, .ref q0), (1, .int x1), (2, .ref 12), (3, .int x3), (4, .int x4)] [] w (fX8_unlikeUpTo_h5 q0 rec5 x1 x3 x4 w) := by
  intro x1 x3 x4 w
  refine q_iload 4 eX8_unlikeUpTo_5 rfl ?_
  refine q_sipush eX8_unlikeUpTo_7 ksipush_256 ?_
  refine q_icmp_ge (tgt := 53) eX8_unlikeUpTo_10 (by decide) (fun _ => ?_) (fun _ => ?_)
  · refine q_iload_n 3 eX8_unlikeUpTo_53 rfl rfl ?_
    exact q_ireturn eX8_unlikeUpTo_54 rfl
  · refine q_iload_n 3 eX8_unlikeUpTo_13 rfl rfl ?_
    refine q_iload_n 1 eX8_unlikeUpTo_14 rfl rfl ?_
    refine q_icmp_ge (tgt := 53) eX8_unlikeUpTo_15 (by decide) (fun _ => ?_) (fun _ => ?_)
    · refine q_iload_n 3 eX8_unlikeUpTo_53 rfl rfl ?_
      exact q_ireturn eX8_unlikeUpTo_54 rfl
    · refine q_aload_n 2 eX8_unlikeUpTo_18 rfl rfl ?_
      refine q_aload_n 0 eX8_unlikeUpTo_19 rfl rfl ?_
      refine q_iload 4 eX8_unlikeUpTo_20 rfl ?_
      refine q_callVI (As := [.int x4]) (st := [.ref 12]) eX8_unlikeUpTo_22 cv_8_32 (kX8_pointX X l q0 x4 w) h0 rfl (by decide) rfl rfl (Nat.le_of_ble_eq_true rfl) (by decide) (fun r1 w2 => ?_)
      refine q_aload_n 0 eX8_unlikeUpTo_25 rfl rfl ?_
      refine q_iload 4 eX8_unlikeUpTo_26 rfl ?_
      refine q_callVI (As := [.int x4]) (st := [.int r1, .ref 12]) eX8_unlikeUpTo_28 cv_8_36 (kX8_pointY X l q0 x4 w2) h0 rfl (by decide) rfl rfl (Nat.le_of_ble_eq_true rfl) (by decide) (fun r3 w4 => ?_)
      refine q_callVI (As := [.int r1, .int r3]) (st := []) eX8_unlikeUpTo_31 cv_8_39 (kX0_colourOf X l r1 r3 w4) tC_12 rfl (by decide) rfl rfl (Nat.le_of_ble_eq_true rfl) (by decide) (fun r5 w6 => ?_)
      refine q_aload_n 0 eX8_unlikeUpTo_34 rfl rfl ?_
      refine q_getG (v := (fC q0 0)) eX8_unlikeUpTo_35 fl_8_11 h0 rfl rfl ?_
      refine q_iload 4 eX8_unlikeUpTo_38 rfl ?_
      refine q_iald eX8_unlikeUpTo_40 (fxC_8_0 q0 h0) (flC_8_0 q0 h0) ?_
      refine q_icmp_eq (tgt := 47) eX8_unlikeUpTo_41 (by decide) (fun _ => ?_) (fun _ => ?_)
      · exact q_sub [0, 1, 2, 3, 4] rfl (jX8_unlikeUpTo_n47 X l q0 h0 rec5 hr5 x1 x3 x4 w6)
      · refine q_ltE (fun y7 hy7 => ?_)
        refine q_iinc (v := y7) (lv' := [(3, .int y7), (0, .ref q0), (1, .int x1), (2, .ref 12), (4, .int x4)]) 3 eX8_unlikeUpTo_44 rfl hy7 (by decide) rfl ?_
        exact q_sub [1, 2, 3, 0, 4] rfl (jX8_unlikeUpTo_n47 X l q0 h0 rec5 hr5 x1 y7 x4 w6)
set_option maxHeartbeats 4000000 in
set_option maxRecDepth 100000 in
theorem jX8_unlikeUpTo_l5 (X : q_X) (l : Launch) (q0 : Nat) (h0 : cC q0 = 8) : ∀ x1 x3 x4 w, q_J X S_C l mX8_unlikeUpTo 4 q_tI 5 [(0, .ref q0), (1, .int x1), (2, .ref 12), (3, .int x3), (4, .int x4)] [] w (fX8_unlikeUpTo_l5 q0 x1 x3 x4 w) := by
  exact q_it_ind (fun rc => ∀ x1 x3 x4 w, q_J X S_C l mX8_unlikeUpTo 4 q_tI 5 [(0, .ref q0), (1, .int x1), (2, .ref 12), (3, .int x3), (4, .int x4)] [] w (rc x1 x3 x4 w)) _ _ (fun _ _ _ _ => q_none) (fun rc hrc => jX8_unlikeUpTo_h5 X l q0 h0 rc hrc) q_N
def fX8_unlikeUpTo (q0 : Nat) (a1 : Int32) (w : q_W) : Option (Int32 × q_W) :=
  if cC q0 = 8 then
  fX8_unlikeUpTo_l5 q0 a1 0 0 w
  else none
set_option maxHeartbeats 4000000 in
set_option maxRecDepth 100000 in
theorem kX8_unlikeUpTo (X : q_X) (l : Launch) (q0 : Nat) (a1 : Int32) (w : q_W) : q_Ct X S_C l mX8_unlikeUpTo 4 q_tI [.ref q0, .int a1, .ref 12] w (fX8_unlikeUpTo q0 a1 w) := by
  refine q_intro (lv := [(0, .ref q0), (1, .int a1), (2, .ref 12)]) (by decide +kernel) rfl (Nat.le_of_ble_eq_true rfl) rfl ?_
  refine q_ck (fun h0 => ?_)
  refine q_iconst eX8_unlikeUpTo_0 kiconst_0 ?_
  refine q_istore_n (lv' := [(3, .int 0), (0, .ref q0), (1, .int a1), (2, .ref 12)]) eX8_unlikeUpTo_1 rfl (by decide) rfl ?_
  refine q_iconst eX8_unlikeUpTo_2 kiconst_0 ?_
  refine q_istore (lv' := [(4, .int 0), (3, .int 0), (0, .ref q0), (1, .int a1), (2, .ref 12)]) eX8_unlikeUpTo_3 (by decide) rfl ?_
  exact q_sub [2, 3, 4, 1, 0] rfl (jX8_unlikeUpTo_l5 X l q0 h0 a1 0 0 w)
def fX3_compare (a1 : Int32) (a2 : Int32) (w : q_W) : Option (Unit × q_W) :=
  q_b (fX0_begin 9 a2 w) fun r1 w2 =>
  q_b (fX6_size 9 w2) fun r3 w4 =>
  q_b (fX3_pickAll 0 r3 w4) fun r5 w6 =>
  q_b (fX8_unlikeUpTo 14 (w6.1 37 11) w6) fun r7 w8 =>
  if (w8.1 37 11) ≤ r7 then
    some ((), w8)
  else
    q_lt (q_sI w8 37 11 r7) fun w9 =>
    q_lt (q_sI w9 37 10 a1) fun w10 =>
    some ((), w10)
set_option maxHeartbeats 4000000 in
set_option maxRecDepth 100000 in
theorem kX3_compare (X : q_X) (l : Launch) (a1 : Int32) (a2 : Int32) (w : q_W) : q_Ct X S_C l mX3_compare 5 q_tV [.ref 37, .int a1, .int a2] w (fX3_compare a1 a2 w) := by
  refine q_intro (lv := [(0, .ref 37), (1, .int a1), (2, .int a2)]) (by decide +kernel) rfl (Nat.le_of_ble_eq_true rfl) rfl ?_
  refine q_aload_n 0 eX3_compare_0 rfl rfl ?_
  refine q_getG (v := 12) eX3_compare_1 fl_3_37 tC_37 rfl gC_37_2 ?_
  refine q_aload_n 0 eX3_compare_4 rfl rfl ?_
  refine q_getG (v := 9) eX3_compare_5 fl_3_33 tC_37 rfl gC_37_1 ?_
  refine q_iload_n 2 eX3_compare_8 rfl rfl ?_
  refine q_callVV (As := [.ref 9, .int a2]) (st := []) eX3_compare_9 cv_3_81 (kX0_begin X l 9 a2 w) tC_12 rfl (by decide) rfl rfl (Nat.le_of_ble_eq_true rfl) (by decide) (fun r1 w2 => ?_)
  refine q_aload_n 0 eX3_compare_12 rfl rfl ?_
  refine q_iconst eX3_compare_13 kiconst_0 ?_
  refine q_aload_n 0 eX3_compare_14 rfl rfl ?_
  refine q_getG (v := 9) eX3_compare_15 fl_3_33 tC_37 rfl gC_37_1 ?_
  refine q_callVI (As := []) (st := [.int 0, .ref 37]) eX3_compare_18 cv_3_87 (kX6_size X l 9 w2) tC_9 rfl (by decide) rfl rfl (Nat.le_of_ble_eq_true rfl) (by decide) (fun r3 w4 => ?_)
  refine q_callVV (As := [.int 0, .int r3]) (st := []) eX3_compare_21 cv_3_88 (kX3_pickAll X l 0 r3 w4) tC_37 rfl (by decide) rfl rfl (Nat.le_of_ble_eq_true rfl) (by decide) (fun r5 w6 => ?_)
  refine q_aload_n 0 eX3_compare_24 rfl rfl ?_
  refine q_getG (v := 14) eX3_compare_25 fl_3_41 tC_37 rfl gC_37_3 ?_
  refine q_aload_n 0 eX3_compare_28 rfl rfl ?_
  refine q_getI eX3_compare_29 fl_3_49 tC_37 rfl ?_
  refine q_aload_n 0 eX3_compare_32 rfl rfl ?_
  refine q_getG (v := 12) eX3_compare_33 fl_3_37 tC_37 rfl gC_37_2 ?_
  refine q_callVI (As := [.int (w6.1 37 11), .ref 12]) (st := []) eX3_compare_36 cv_3_91 (kX8_unlikeUpTo X l 14 (w6.1 37 11) w6) tC_14 rfl (by decide) rfl rfl (Nat.le_of_ble_eq_true rfl) (by decide) (fun r7 w8 => ?_)
  refine q_istore_n (lv' := [(3, .int r7), (0, .ref 37), (1, .int a1), (2, .int a2)]) eX3_compare_39 rfl (by decide) rfl ?_
  refine q_iload_n 0 eX3_compare_40 rfl rfl ?_
  refine q_aload_n 1 eX3_compare_41 rfl rfl ?_
  refine q_getI eX3_compare_42 fl_3_49 tC_37 rfl ?_
  refine q_icmp_ge (tgt := 58) eX3_compare_45 (by decide) (fun _ => ?_) (fun _ => ?_)
  · exact q_return eX3_compare_58 rfl
  · refine q_aload_n 1 eX3_compare_48 rfl rfl ?_
    refine q_iload_n 0 eX3_compare_49 rfl rfl ?_
    refine q_putI eX3_compare_50 fp_3_49 tC_37 rfl ⟨rfl, rfl⟩ ?_
    refine q_ltW (fun w9 => ?_)
    refine q_aload_n 1 eX3_compare_53 rfl rfl ?_
    refine q_iload_n 2 eX3_compare_54 rfl rfl ?_
    refine q_putI eX3_compare_55 fp_3_45 tC_37 rfl ⟨rfl, rfl⟩ ?_
    refine q_ltW (fun w10 => ?_)
    exact q_return eX3_compare_58 rfl
def fX4_size (q0 : Nat) (w : q_W) : Option (Int32 × q_W) :=
  if cC q0 = 4 then
  some ((w.1 q0 4), w)
  else none
set_option maxHeartbeats 4000000 in
set_option maxRecDepth 100000 in
theorem kX4_size (X : q_X) (l : Launch) (q0 : Nat) (w : q_W) : q_Ct X S_C l mX4_size 0 q_tI [.ref q0] w (fX4_size q0 w) := by
  refine q_intro (lv := [(0, .ref q0)]) (by decide +kernel) rfl (Nat.le_of_ble_eq_true rfl) rfl ?_
  refine q_ck (fun h0 => ?_)
  refine q_aload_n 0 eX4_size_0 rfl rfl ?_
  refine q_getI eX4_size_1 fl_4_23 h0 rfl ?_
  exact q_ireturn eX4_size_4 rfl
def fX6_allow (q0 : Nat) (a1 : Int32) (w : q_W) : Option (Unit × q_W) :=
  if cC q0 = 6 then
  q_lt (q_sI w q0 3 (q_imin ((w.1 q0 2) + (q_imax a1 0)) 480)) fun w1 =>
  some ((), w1)
  else none
set_option maxHeartbeats 4000000 in
set_option maxRecDepth 100000 in
theorem kX6_allow (X : q_X) (l : Launch) (q0 : Nat) (a1 : Int32) (w : q_W) : q_Ct X S_C l mX6_allow 1 q_tV [.ref q0, .int a1] w (fX6_allow q0 a1 w) := by
  refine q_intro (lv := [(0, .ref q0), (1, .int a1)]) (by decide +kernel) rfl (Nat.le_of_ble_eq_true rfl) rfl ?_
  refine q_ck (fun h0 => ?_)
  refine q_aload_n 0 eX6_allow_0 rfl rfl ?_
  refine q_aload_n 0 eX6_allow_1 rfl rfl ?_
  refine q_getI eX6_allow_2 fl_6_22 h0 rfl ?_
  refine q_iload_n 1 eX6_allow_5 rfl rfl ?_
  refine q_iconst eX6_allow_6 kiconst_0 ?_
  refine q_mmax eX6_allow_7 cv_6_29 (Nat.le_of_ble_eq_true rfl) (by decide) ?_
  refine q_iadd eX6_allow_10 ?_
  refine q_sipush eX6_allow_11 ksipush_480 ?_
  refine q_mmin eX6_allow_14 cv_6_35 (Nat.le_of_ble_eq_true rfl) (by decide) ?_
  refine q_putI eX6_allow_17 fp_6_18 h0 rfl ⟨rfl, rfl⟩ ?_
  refine q_ltW (fun w1 => ?_)
  exact q_return eX6_allow_20 rfl
def fX6_clear (q0 : Nat) (a1 : Int32) (w : q_W) : Option (Unit × q_W) :=
  if cC q0 = 6 then
  q_lt (q_sI w q0 2 0) fun w1 =>
  q_b (fX6_allow q0 a1 w1) fun r2 w3 =>
  some ((), w3)
  else none
set_option maxHeartbeats 4000000 in
set_option maxRecDepth 100000 in
theorem kX6_clear (X : q_X) (l : Launch) (q0 : Nat) (a1 : Int32) (w : q_W) : q_Ct X S_C l mX6_clear 2 q_tV [.ref q0, .int a1] w (fX6_clear q0 a1 w) := by
  refine q_intro (lv := [(0, .ref q0), (1, .int a1)]) (by decide +kernel) rfl (Nat.le_of_ble_eq_true rfl) rfl ?_
  refine q_ck (fun h0 => ?_)
  refine q_aload_n 0 eX6_clear_0 rfl rfl ?_
  refine q_iconst eX6_clear_1 kiconst_0 ?_
  refine q_putI eX6_clear_2 fp_6_22 h0 rfl ⟨rfl, rfl⟩ ?_
  refine q_ltW (fun w1 => ?_)
  refine q_aload_n 0 eX6_clear_5 rfl rfl ?_
  refine q_iload_n 1 eX6_clear_6 rfl rfl ?_
  refine q_callVV (As := [.int a1]) (st := []) eX6_clear_7 cv_6_25 (kX6_allow X l q0 a1 w1) h0 rfl (by decide) rfl rfl (Nat.le_of_ble_eq_true rfl) (by decide) (fun r2 w3 => ?_)
  exact q_return eX6_clear_10 rfl
def fX3_seekBest_n119 (q1 : Nat) (rec14 : Int32 → Int32 → q_W → Option (Int32 × q_W)) (rec56 : Int32 → Int32 → Int32 → Int32 → Int32 → q_W → Option (Int32 × q_W)) (rec66 : Int32 → Int32 → Int32 → Int32 → Int32 → Int32 → q_W → Option (Int32 × q_W)) (x2 : Int32) (x3 : Int32) (x4 : Int32) (x5 : Int32) (x6 : Int32) (x7 : Int32) (w : q_W) : Option (Int32 × q_W) :=
  q_lt (x7 + 1) fun y1 =>
  rec66 x2 x3 x4 x5 x6 y1 w
set_option maxHeartbeats 4000000 in
set_option maxRecDepth 100000 in
theorem jX3_seekBest_n119 (X : q_X) (l : Launch) (q1 : Nat) (h1 : cC q1 = 4) (rec14 : Int32 → Int32 → q_W → Option (Int32 × q_W)) (rec56 : Int32 → Int32 → Int32 → Int32 → Int32 → q_W → Option (Int32 × q_W)) (rec66 : Int32 → Int32 → Int32 → Int32 → Int32 → Int32 → q_W → Option (Int32 × q_W)) (hr14 : ∀ x2 x3 w, q_J X S_C l mX3_seekBest 6 q_tI 14 [(0, .ref 37), (1, .ref q1), (2, .int x2), (3, .int x3)] [] w (rec14 x2 x3 w)) (hr56 : ∀ x2 x3 x4 x5 x6 w, q_J X S_C l mX3_seekBest 6 q_tI 56 [(0, .ref 37), (1, .ref q1), (2, .int x2), (3, .int x3), (4, .int x4), (5, .int x5), (6, .int x6)] [] w (rec56 x2 x3 x4 x5 x6 w)) (hr66 : ∀ x2 x3 x4 x5 x6 x7 w, q_J X S_C l mX3_seekBest 6 q_tI 66 [(0, .ref 37), (1, .ref q1), (2, .int x2), (3, .int x3), (4, .int x4), (5, .int x5), (6, .int x6), (7, .int x7)] [] w (rec66 x2 x3 x4 x5 x6 x7 w)) (x2 : Int32) (x3 : Int32) (x4 : Int32) (x5 : Int32) (x6 : Int32) (x7 : Int32) (w : q_W) : q_J X S_C l mX3_seekBest 6 q_tI 119 [(0, .ref 37), (1, .ref q1), (2, .int x2), (3, .int x3), (4, .int x4), (5, .int x5), (6, .int x6), (7, .int x7)] [] w (fX3_seekBest_n119 q1 rec14 rec56 rec66 x2 x3 x4 x5 x6 x7 w) := by
  refine q_ltE (fun y1 hy1 => ?_)
  refine q_iinc (v := y1) (lv' := [(7, .int y1), (0, .ref 37), (1, .ref q1), (2, .int x2), (3, .int x3), (4, .int x4), (5, .int x5), (6, .int x6)]) 7 eX3_seekBest_119 rfl hy1 (by decide) rfl ?_
  refine q_goto (tgt := 66) eX3_seekBest_122 (by decide) ?_
  exact q_sub [1, 2, 3, 4, 5, 6, 7, 0] rfl (hr66 x2 x3 x4 x5 x6 y1 w)
def fX3_seekBest_h66 (q1 : Nat) (rec14 : Int32 → Int32 → q_W → Option (Int32 × q_W)) (rec56 : Int32 → Int32 → Int32 → Int32 → Int32 → q_W → Option (Int32 × q_W)) (rec66 : Int32 → Int32 → Int32 → Int32 → Int32 → Int32 → q_W → Option (Int32 × q_W)) (x2 : Int32) (x3 : Int32) (x4 : Int32) (x5 : Int32) (x6 : Int32) (x7 : Int32) (w : q_W) : Option (Int32 × q_W) :=
  if x5 < x7 then
    q_lt (x6 + 1) fun y1 =>
    rec56 x2 x3 x4 x5 y1 w
  else
    q_b (fX6_clear 9 60 w) fun r2 w3 =>
    q_b (fX1_perform q1 x3 x6 x7 9 w3) fun r4 w5 =>
    if r4 = 0 then
      q_b (fX3_compare (((16 * x3) + (4 * x6)) + x7) x2 w5) fun r6 w7 =>
      fX3_seekBest_n119 q1 rec14 rec56 rec66 x2 x3 x4 x5 x6 x7 w7
    else
      fX3_seekBest_n119 q1 rec14 rec56 rec66 x2 x3 x4 x5 x6 x7 w5
def fX3_seekBest_l66 (q1 : Nat) (rec14 : Int32 → Int32 → q_W → Option (Int32 × q_W)) (rec56 : Int32 → Int32 → Int32 → Int32 → Int32 → q_W → Option (Int32 × q_W)) : Int32 → Int32 → Int32 → Int32 → Int32 → Int32 → q_W → Option (Int32 × q_W) := q_it q_N (fX3_seekBest_h66 q1 rec14 rec56) (fun _ _ _ _ _ _ _ => none)
set_option maxHeartbeats 4000000 in
set_option maxRecDepth 100000 in
theorem jX3_seekBest_h66 (X : q_X) (l : Launch) (q1 : Nat) (h1 : cC q1 = 4) (rec14 : Int32 → Int32 → q_W → Option (Int32 × q_W)) (rec56 : Int32 → Int32 → Int32 → Int32 → Int32 → q_W → Option (Int32 × q_W)) (hr14 : ∀ x2 x3 w, q_J X S_C l mX3_seekBest 6 q_tI 14 [(0, .ref 37), (1, .ref q1), (2, .int x2), (3, .int x3)] [] w (rec14 x2 x3 w)) (hr56 : ∀ x2 x3 x4 x5 x6 w, q_J X S_C l mX3_seekBest 6 q_tI 56 [(0, .ref 37), (1, .ref q1), (2, .int x2), (3, .int x3), (4, .int x4), (5, .int x5), (6, .int x6)] [] w (rec56 x2 x3 x4 x5 x6 w)) (rec66 : Int32 → Int32 → Int32 → Int32 → Int32 → Int32 → q_W → Option (Int32 × q_W)) (hr66 : ∀ x2 x3 x4 x5 x6 x7 w, q_J X S_C l mX3_seekBest 6 q_tI 66 [(0, .ref 37), (1, .ref q1), (2, .int x2), (3, .int x3), (4, .int x4), (5, .int x5), (6, .int x6), (7, .int x7)] [] w (rec66 x2 x3 x4 x5 x6 x7 w)) : ∀ x2 x3 x4 x5 x6 x7 w, q_J X S_C l mX3_seekBest 6 q_tI 66 [(0, .ref 37), (1, .ref q1), (2, .int x2), (3, .int x3), (4, .int x4), (5, .int x5), (6, .int x6), (7, .int x7)] [] w (fX3_seekBest_h66 q1 rec14 rec56 rec66 x2 x3 x4 x5 x6 x7 w) := by
  intro x2 x3 x4 x5 x6 x7 w
  refine q_iload 7 eX3_seekBest_66 rfl ?_
  refine q_iload 5 eX3_seekBest_68 rfl ?_
  refine q_icmp_gt (tgt := 125) eX3_seekBest_70 (by decide) (fun _ => ?_) (fun _ => ?_)
  · refine q_ltE (fun y1 hy1 => ?_)
    refine q_iinc (v := y1) (lv' := [(6, .int y1), (0, .ref 37), (1, .ref q1), (2, .int x2), (3, .int x3), (4, .int x4), (5, .int x5), (7, .int x7)]) 6 eX3_seekBest_125 rfl hy1 (by decide) rfl ?_
    refine q_goto (tgt := 56) eX3_seekBest_128 (by decide) ?_
    exact q_sub [1, 2, 3, 4, 5, 6, 0] rfl (hr56 x2 x3 x4 x5 y1 w)
  · refine q_aload_n 0 eX3_seekBest_73 rfl rfl ?_
    refine q_getG (v := 9) eX3_seekBest_74 fl_3_33 tC_37 rfl gC_37_1 ?_
    refine q_bipush eX3_seekBest_77 kbipush_60 ?_
    refine q_callVV (As := [.int 60]) (st := []) eX3_seekBest_79 cv_3_65 (kX6_clear X l 9 60 w) tC_9 rfl (by decide) rfl rfl (Nat.le_of_ble_eq_true rfl) (by decide) (fun r2 w3 => ?_)
    refine q_aload_n 0 eX3_seekBest_82 rfl rfl ?_
    refine q_getG (v := 31) eX3_seekBest_83 fl_3_29 tC_37 rfl gC_37_0 ?_
    refine q_aload_n 1 eX3_seekBest_86 rfl rfl ?_
    refine q_iload_n 3 eX3_seekBest_87 rfl rfl ?_
    refine q_iload 6 eX3_seekBest_88 rfl ?_
    refine q_iload 7 eX3_seekBest_90 rfl ?_
    refine q_aload_n 0 eX3_seekBest_92 rfl rfl ?_
    refine q_getG (v := 9) eX3_seekBest_93 fl_3_33 tC_37 rfl gC_37_1 ?_
    refine q_callVI (As := [.ref q1, .int x3, .int x6, .int x7, .ref 9]) (st := []) eX3_seekBest_96 cv_3_71 (kX1_perform X l q1 x3 x6 x7 9 w3) tC_31 rfl (by decide) rfl rfl (Nat.le_of_ble_eq_true rfl) (by decide) (fun r4 w5 => ?_)
    refine q_if_ne (tgt := 119) eX3_seekBest_99 (by decide) (fun _ => ?_) (fun _ => ?_)
    · refine q_aload_n 0 eX3_seekBest_102 rfl rfl ?_
      refine q_bipush eX3_seekBest_103 kbipush_16 ?_
      refine q_iload_n 3 eX3_seekBest_105 rfl rfl ?_
      refine q_imul eX3_seekBest_106 ?_
      refine q_iconst eX3_seekBest_107 kiconst_4 ?_
      refine q_iload 6 eX3_seekBest_108 rfl ?_
      refine q_imul eX3_seekBest_110 ?_
      refine q_iadd eX3_seekBest_111 ?_
      refine q_iload 7 eX3_seekBest_112 rfl ?_
      refine q_iadd eX3_seekBest_114 ?_
      refine q_iload_n 2 eX3_seekBest_115 rfl rfl ?_
      refine q_callVV (As := [.int (((16 * x3) + (4 * x6)) + x7), .int x2]) (st := []) eX3_seekBest_116 cv_3_77 (kX3_compare X l (((16 * x3) + (4 * x6)) + x7) x2 w5) tC_37 rfl (by decide) rfl rfl (Nat.le_of_ble_eq_true rfl) (by decide) (fun r6 w7 => ?_)
      exact q_sub [0, 1, 2, 3, 4, 5, 6, 7] rfl (jX3_seekBest_n119 X l q1 h1 rec14 rec56 rec66 hr14 hr56 hr66 x2 x3 x4 x5 x6 x7 w7)
    · exact q_sub [0, 1, 2, 3, 4, 5, 6, 7] rfl (jX3_seekBest_n119 X l q1 h1 rec14 rec56 rec66 hr14 hr56 hr66 x2 x3 x4 x5 x6 x7 w5)
set_option maxHeartbeats 4000000 in
set_option maxRecDepth 100000 in
theorem jX3_seekBest_l66 (X : q_X) (l : Launch) (q1 : Nat) (h1 : cC q1 = 4) (rec14 : Int32 → Int32 → q_W → Option (Int32 × q_W)) (rec56 : Int32 → Int32 → Int32 → Int32 → Int32 → q_W → Option (Int32 × q_W)) (hr14 : ∀ x2 x3 w, q_J X S_C l mX3_seekBest 6 q_tI 14 [(0, .ref 37), (1, .ref q1), (2, .int x2), (3, .int x3)] [] w (rec14 x2 x3 w)) (hr56 : ∀ x2 x3 x4 x5 x6 w, q_J X S_C l mX3_seekBest 6 q_tI 56 [(0, .ref 37), (1, .ref q1), (2, .int x2), (3, .int x3), (4, .int x4), (5, .int x5), (6, .int x6)] [] w (rec56 x2 x3 x4 x5 x6 w)) : ∀ x2 x3 x4 x5 x6 x7 w, q_J X S_C l mX3_seekBest 6 q_tI 66 [(0, .ref 37), (1, .ref q1), (2, .int x2), (3, .int x3), (4, .int x4), (5, .int x5), (6, .int x6), (7, .int x7)] [] w (fX3_seekBest_l66 q1 rec14 rec56 x2 x3 x4 x5 x6 x7 w) := by
  exact q_it_ind (fun rc => ∀ x2 x3 x4 x5 x6 x7 w, q_J X S_C l mX3_seekBest 6 q_tI 66 [(0, .ref 37), (1, .ref q1), (2, .int x2), (3, .int x3), (4, .int x4), (5, .int x5), (6, .int x6), (7, .int x7)] [] w (rc x2 x3 x4 x5 x6 x7 w)) _ _ (fun _ _ _ _ _ _ _ => q_none) (fun rc hrc => jX3_seekBest_h66 X l q1 h1 rec14 rec56 hr14 hr56 rc hrc) q_N
def fX3_seekBest_h56 (q1 : Nat) (rec14 : Int32 → Int32 → q_W → Option (Int32 × q_W)) (rec56 : Int32 → Int32 → Int32 → Int32 → Int32 → q_W → Option (Int32 × q_W)) (x2 : Int32) (x3 : Int32) (x4 : Int32) (x5 : Int32) (x6 : Int32) (w : q_W) : Option (Int32 × q_W) :=
  if x4 < x6 then
    q_lt (x3 + 1) fun y1 =>
    rec14 x2 y1 w
  else
    fX3_seekBest_l66 q1 rec14 rec56 x2 x3 x4 x5 x6 0 w
def fX3_seekBest_l56 (q1 : Nat) (rec14 : Int32 → Int32 → q_W → Option (Int32 × q_W)) : Int32 → Int32 → Int32 → Int32 → Int32 → q_W → Option (Int32 × q_W) := q_it q_N (fX3_seekBest_h56 q1 rec14) (fun _ _ _ _ _ _ => none)
set_option maxHeartbeats 4000000 in
set_option maxRecDepth 100000 in
theorem jX3_seekBest_h56 (X : q_X) (l : Launch) (q1 : Nat) (h1 : cC q1 = 4) (rec14 : Int32 → Int32 → q_W → Option (Int32 × q_W)) (hr14 : ∀ x2 x3 w, q_J X S_C l mX3_seekBest 6 q_tI 14 [(0, .ref 37), (1, .ref q1), (2, .int x2), (3, .int x3)] [] w (rec14 x2 x3 w)) (rec56 : Int32 → Int32 → Int32 → Int32 → Int32 → q_W → Option (Int32 × q_W)) (hr56 : ∀ x2 x3 x4 x5 x6 w, q_J X S_C l mX3_seekBest 6 q_tI 56 [(0, .ref 37), (1, .ref q1), (2, .int x2), (3, .int x3), (4, .int x4), (5, .int x5), (6, .int x6)] [] w (rec56 x2 x3 x4 x5 x6 w)) : ∀ x2 x3 x4 x5 x6 w, q_J X S_C l mX3_seekBest 6 q_tI 56 [(0, .ref 37), (1, .ref q1), (2, .int x2), (3, .int x3), (4, .int x4), (5, .int x5), (6, .int x6)] [] w (fX3_seekBest_h56 q1 rec14 rec56 x2 x3 x4 x5 x6 w) := by
  intro x2 x3 x4 x5 x6 w
  refine q_iload 6 eX3_seekBest_56 rfl ?_
  refine q_iload 4 eX3_seekBest_58 rfl ?_
  refine q_icmp_gt (tgt := 131) eX3_seekBest_60 (by decide) (fun _ => ?_) (fun _ => ?_)
  · refine q_ltE (fun y1 hy1 => ?_)
    refine q_iinc (v := y1) (lv' := [(3, .int y1), (0, .ref 37), (1, .ref q1), (2, .int x2), (4, .int x4), (5, .int x5), (6, .int x6)]) 3 eX3_seekBest_131 rfl hy1 (by decide) rfl ?_
    refine q_goto (tgt := 14) eX3_seekBest_134 (by decide) ?_
    exact q_sub [1, 2, 3, 0] rfl (hr14 x2 y1 w)
  · refine q_iconst eX3_seekBest_63 kiconst_0 ?_
    refine q_istore (lv' := [(7, .int 0), (0, .ref 37), (1, .ref q1), (2, .int x2), (3, .int x3), (4, .int x4), (5, .int x5), (6, .int x6)]) eX3_seekBest_64 (by decide) rfl ?_
    exact q_sub [1, 2, 3, 4, 5, 6, 7, 0] rfl (jX3_seekBest_l66 X l q1 h1 rec14 rec56 hr14 hr56 x2 x3 x4 x5 x6 0 w)
set_option maxHeartbeats 4000000 in
set_option maxRecDepth 100000 in
theorem jX3_seekBest_l56 (X : q_X) (l : Launch) (q1 : Nat) (h1 : cC q1 = 4) (rec14 : Int32 → Int32 → q_W → Option (Int32 × q_W)) (hr14 : ∀ x2 x3 w, q_J X S_C l mX3_seekBest 6 q_tI 14 [(0, .ref 37), (1, .ref q1), (2, .int x2), (3, .int x3)] [] w (rec14 x2 x3 w)) : ∀ x2 x3 x4 x5 x6 w, q_J X S_C l mX3_seekBest 6 q_tI 56 [(0, .ref 37), (1, .ref q1), (2, .int x2), (3, .int x3), (4, .int x4), (5, .int x5), (6, .int x6)] [] w (fX3_seekBest_l56 q1 rec14 x2 x3 x4 x5 x6 w) := by
  exact q_it_ind (fun rc => ∀ x2 x3 x4 x5 x6 w, q_J X S_C l mX3_seekBest 6 q_tI 56 [(0, .ref 37), (1, .ref q1), (2, .int x2), (3, .int x3), (4, .int x4), (5, .int x5), (6, .int x6)] [] w (rc x2 x3 x4 x5 x6 w)) _ _ (fun _ _ _ _ _ _ => q_none) (fun rc hrc => jX3_seekBest_h56 X l q1 h1 rec14 hr14 rc hrc) q_N
def fX3_seekBest_n51 (q1 : Nat) (rec14 : Int32 → Int32 → q_W → Option (Int32 × q_W)) (x2 : Int32) (x3 : Int32) (x4 : Int32) (s0 : Int32) (w : q_W) : Option (Int32 × q_W) :=
  fX3_seekBest_l56 q1 rec14 x2 x3 x4 s0 0 w
set_option maxHeartbeats 4000000 in
set_option maxRecDepth 100000 in
theorem jX3_seekBest_n51 (X : q_X) (l : Launch) (q1 : Nat) (h1 : cC q1 = 4) (rec14 : Int32 → Int32 → q_W → Option (Int32 × q_W)) (hr14 : ∀ x2 x3 w, q_J X S_C l mX3_seekBest 6 q_tI 14 [(0, .ref 37), (1, .ref q1), (2, .int x2), (3, .int x3)] [] w (rec14 x2 x3 w)) (x2 : Int32) (x3 : Int32) (x4 : Int32) (s0 : Int32) (w : q_W) : q_J X S_C l mX3_seekBest 6 q_tI 51 [(0, .ref 37), (1, .ref q1), (2, .int x2), (3, .int x3), (4, .int x4)] [.int s0] w (fX3_seekBest_n51 q1 rec14 x2 x3 x4 s0 w) := by
  refine q_istore (lv' := [(5, .int s0), (0, .ref 37), (1, .ref q1), (2, .int x2), (3, .int x3), (4, .int x4)]) eX3_seekBest_51 (by decide) rfl ?_
  refine q_iconst eX3_seekBest_53 kiconst_0 ?_
  refine q_istore (lv' := [(6, .int 0), (5, .int s0), (0, .ref 37), (1, .ref q1), (2, .int x2), (3, .int x3), (4, .int x4)]) eX3_seekBest_54 (by decide) rfl ?_
  exact q_sub [2, 3, 4, 5, 6, 1, 0] rfl (jX3_seekBest_l56 X l q1 h1 rec14 hr14 x2 x3 x4 s0 0 w)
def fX3_seekBest_n35 (q1 : Nat) (rec14 : Int32 → Int32 → q_W → Option (Int32 × q_W)) (x2 : Int32) (x3 : Int32) (s0 : Int32) (w : q_W) : Option (Int32 × q_W) :=
  q_b (fX4_needs q1 x3 w) fun r1 w2 =>
  if r1 ≤ 1 then
    fX3_seekBest_n51 q1 rec14 x2 x3 s0 0 w2
  else
    fX3_seekBest_n51 q1 rec14 x2 x3 s0 3 w2
set_option maxHeartbeats 4000000 in
set_option maxRecDepth 100000 in
theorem jX3_seekBest_n35 (X : q_X) (l : Launch) (q1 : Nat) (h1 : cC q1 = 4) (rec14 : Int32 → Int32 → q_W → Option (Int32 × q_W)) (hr14 : ∀ x2 x3 w, q_J X S_C l mX3_seekBest 6 q_tI 14 [(0, .ref 37), (1, .ref q1), (2, .int x2), (3, .int x3)] [] w (rec14 x2 x3 w)) (x2 : Int32) (x3 : Int32) (s0 : Int32) (w : q_W) : q_J X S_C l mX3_seekBest 6 q_tI 35 [(0, .ref 37), (1, .ref q1), (2, .int x2), (3, .int x3)] [.int s0] w (fX3_seekBest_n35 q1 rec14 x2 x3 s0 w) := by
  refine q_istore (lv' := [(4, .int s0), (0, .ref 37), (1, .ref q1), (2, .int x2), (3, .int x3)]) eX3_seekBest_35 (by decide) rfl ?_
  refine q_aload_n 2 eX3_seekBest_37 rfl rfl ?_
  refine q_iload_n 4 eX3_seekBest_38 rfl rfl ?_
  refine q_callVI (As := [.int x3]) (st := []) eX3_seekBest_39 cv_3_61 (kX4_needs X l q1 x3 w) h1 rfl (by decide) rfl rfl (Nat.le_of_ble_eq_true rfl) (by decide) (fun r1 w2 => ?_)
  refine q_iconst eX3_seekBest_42 kiconst_1 ?_
  refine q_icmp_le (tgt := 50) eX3_seekBest_43 (by decide) (fun _ => ?_) (fun _ => ?_)
  · refine q_iconst eX3_seekBest_50 kiconst_0 ?_
    exact q_sub [1, 2, 3, 4, 0] rfl (jX3_seekBest_n51 X l q1 h1 rec14 hr14 x2 x3 s0 0 w2)
  · refine q_iconst eX3_seekBest_46 kiconst_3 ?_
    refine q_goto (tgt := 51) eX3_seekBest_47 (by decide) ?_
    exact q_sub [1, 2, 3, 4, 0] rfl (jX3_seekBest_n51 X l q1 h1 rec14 hr14 x2 x3 s0 3 w2)
def fX3_seekBest_h14 (q1 : Nat) (rec14 : Int32 → Int32 → q_W → Option (Int32 × q_W)) (x2 : Int32) (x3 : Int32) (w : q_W) : Option (Int32 × q_W) :=
  q_b (fX4_size q1 w) fun r1 w2 =>
  if r1 ≤ x3 then
    if (w2.1 37 10) = (-1) then
      some (0, w2)
    else
      some (1, w2)
  else
    q_b (fX4_needs q1 x3 w2) fun r3 w4 =>
    if r3 ≤ 0 then
      fX3_seekBest_n35 q1 rec14 x2 x3 0 w4
    else
      fX3_seekBest_n35 q1 rec14 x2 x3 3 w4
def fX3_seekBest_l14 (q1 : Nat) : Int32 → Int32 → q_W → Option (Int32 × q_W) := q_it q_N (fX3_seekBest_h14 q1) (fun _ _ _ => none)
set_option maxHeartbeats 4000000 in
set_option maxRecDepth 100000 in
theorem jX3_seekBest_h14 (X : q_X) (l : Launch) (q1 : Nat) (h1 : cC q1 = 4) (rec14 : Int32 → Int32 → q_W → Option (Int32 × q_W)) (hr14 : ∀ x2 x3 w, q_J X S_C l mX3_seekBest 6 q_tI 14 [(0, .ref 37), (1, .ref q1), (2, .int x2), (3, .int x3)] [] w (rec14 x2 x3 w)) : ∀ x2 x3 w, q_J X S_C l mX3_seekBest 6 q_tI 14 [(0, .ref 37), (1, .ref q1), (2, .int x2), (3, .int x3)] [] w (fX3_seekBest_h14 q1 rec14 x2 x3 w) := by
  intro x2 x3 w
  refine q_iload_n 3 eX3_seekBest_14 rfl rfl ?_
  refine q_aload_n 1 eX3_seekBest_15 rfl rfl ?_
  refine q_callVI (As := []) (st := [.int x3]) eX3_seekBest_16 cv_3_57 (kX4_size X l q1 w) h1 rfl (by decide) rfl rfl (Nat.le_of_ble_eq_true rfl) (by decide) (fun r1 w2 => ?_)
  refine q_icmp_ge (tgt := 137) eX3_seekBest_19 (by decide) (fun _ => ?_) (fun _ => ?_)
  · refine q_aload_n 0 eX3_seekBest_137 rfl rfl ?_
    refine q_getI eX3_seekBest_138 fl_3_45 tC_37 rfl ?_
    refine q_iconst eX3_seekBest_141 kiconst_m1 ?_
    refine q_icmp_eq (tgt := 149) eX3_seekBest_142 (by decide) (fun _ => ?_) (fun _ => ?_)
    · refine q_iconst eX3_seekBest_149 kiconst_0 ?_
      exact q_zret eX3_seekBest_150 rfl rfl
    · refine q_iconst eX3_seekBest_145 kiconst_1 ?_
      refine q_goto (tgt := 150) eX3_seekBest_146 (by decide) ?_
      exact q_zret eX3_seekBest_150 rfl rfl
  · refine q_aload_n 1 eX3_seekBest_22 rfl rfl ?_
    refine q_iload_n 3 eX3_seekBest_23 rfl rfl ?_
    refine q_callVI (As := [.int x3]) (st := []) eX3_seekBest_24 cv_3_61 (kX4_needs X l q1 x3 w2) h1 rfl (by decide) rfl rfl (Nat.le_of_ble_eq_true rfl) (by decide) (fun r3 w4 => ?_)
    refine q_if_le (tgt := 34) eX3_seekBest_27 (by decide) (fun _ => ?_) (fun _ => ?_)
    · refine q_iconst eX3_seekBest_34 kiconst_0 ?_
      exact q_sub [0, 1, 2, 3] rfl (jX3_seekBest_n35 X l q1 h1 rec14 hr14 x2 x3 0 w4)
    · refine q_iconst eX3_seekBest_30 kiconst_3 ?_
      refine q_goto (tgt := 35) eX3_seekBest_31 (by decide) ?_
      exact q_sub [0, 1, 2, 3] rfl (jX3_seekBest_n35 X l q1 h1 rec14 hr14 x2 x3 3 w4)
set_option maxHeartbeats 4000000 in
set_option maxRecDepth 100000 in
theorem jX3_seekBest_l14 (X : q_X) (l : Launch) (q1 : Nat) (h1 : cC q1 = 4) : ∀ x2 x3 w, q_J X S_C l mX3_seekBest 6 q_tI 14 [(0, .ref 37), (1, .ref q1), (2, .int x2), (3, .int x3)] [] w (fX3_seekBest_l14 q1 x2 x3 w) := by
  exact q_it_ind (fun rc => ∀ x2 x3 w, q_J X S_C l mX3_seekBest 6 q_tI 14 [(0, .ref 37), (1, .ref q1), (2, .int x2), (3, .int x3)] [] w (rc x2 x3 w)) _ _ (fun _ _ _ => q_none) (fun rc hrc => jX3_seekBest_h14 X l q1 h1 rc hrc) q_N
def fX3_seekBest (q1 : Nat) (a2 : Int32) (w : q_W) : Option (Int32 × q_W) :=
  if cC q1 = 4 then
  q_lt (q_sI w 37 10 (-1)) fun w1 =>
  q_lt (q_sI w1 37 11 257) fun w2 =>
  fX3_seekBest_l14 q1 a2 0 w2
  else none
set_option maxHeartbeats 4000000 in
set_option maxRecDepth 100000 in
theorem kX3_seekBest (X : q_X) (l : Launch) (q1 : Nat) (a2 : Int32) (w : q_W) : q_Ct X S_C l mX3_seekBest 6 q_tI [.ref 37, .ref q1, .int a2] w (fX3_seekBest q1 a2 w) := by
  refine q_intro (lv := [(0, .ref 37), (1, .ref q1), (2, .int a2)]) (by decide +kernel) rfl (Nat.le_of_ble_eq_true rfl) rfl ?_
  refine q_ck (fun h1 => ?_)
  refine q_aload_n 0 eX3_seekBest_0 rfl rfl ?_
  refine q_iconst eX3_seekBest_1 kiconst_m1 ?_
  refine q_putI eX3_seekBest_2 fp_3_45 tC_37 rfl ⟨rfl, rfl⟩ ?_
  refine q_ltW (fun w1 => ?_)
  refine q_aload_n 0 eX3_seekBest_5 rfl rfl ?_
  refine q_sipush eX3_seekBest_6 ksipush_257 ?_
  refine q_putI eX3_seekBest_9 fp_3_49 tC_37 rfl ⟨rfl, rfl⟩ ?_
  refine q_ltW (fun w2 => ?_)
  refine q_iconst eX3_seekBest_12 kiconst_0 ?_
  refine q_istore_n (lv' := [(3, .int 0), (0, .ref 37), (1, .ref q1), (2, .int a2)]) eX3_seekBest_13 rfl (by decide) rfl ?_
  exact q_sub [1, 2, 3, 0] rfl (jX3_seekBest_l14 X l q1 h1 a2 0 w2)
