/-! methods, printed by program: X11_isOver X11_in X11_isStroke X11_strokes -/
def fX11_isOver (w : q_W) : Option (Int32 × q_W) :=
  if (w.1 0 39) = 2000 then
    some (1, w)
  else
    q_lt (q_sI w 0 39 ((w.1 0 39) + 1)) fun w1 =>
    some (0, w1)
set_option maxHeartbeats 4000000 in
set_option maxRecDepth 100000 in
theorem kX11_isOver (X : q_X) (l : Launch) (w : q_W) : q_Ct X S_R l mX11_isOver 0 q_tI [.ref 0] w (fX11_isOver w) := by
  refine q_intro (lv := [(0, .ref 0)]) (by decide +kernel) rfl (Nat.le_of_ble_eq_true rfl) rfl ?_
  refine q_aload_n 0 eX11_isOver_0 rfl rfl ?_
  refine q_getI eX11_isOver_1 fl_11_290 tR_0 rfl ?_
  refine q_sipush eX11_isOver_4 ksipush_2000 ?_
  refine q_icmp_ne (tgt := 12) eX11_isOver_7 (by decide) (fun _ => ?_) (fun _ => ?_)
  · refine q_iconst eX11_isOver_10 kiconst_1 ?_
    exact q_zret eX11_isOver_11 rfl rfl
  · refine q_aload_n 0 eX11_isOver_12 rfl rfl ?_
    refine q_dup eX11_isOver_13 rfl ?_
    refine q_getI eX11_isOver_14 fl_11_290 tR_0 rfl ?_
    refine q_iconst eX11_isOver_17 kiconst_1 ?_
    refine q_iadd eX11_isOver_18 ?_
    refine q_putI eX11_isOver_19 fp_11_290 tR_0 rfl ⟨rfl, rfl⟩ ?_
    refine q_ltW (fun w1 => ?_)
    refine q_iconst eX11_isOver_22 kiconst_0 ?_
    exact q_zret eX11_isOver_23 rfl rfl
def fX11_in (a0 : Int32) (a1 : Int32) (a2 : Int32) (w : q_W) : Option (Int32 × q_W) :=
  if a0 < a1 then
    some (0, w)
  else
    if a2 < a0 then
      some (0, w)
    else
      some (1, w)
set_option maxHeartbeats 4000000 in
set_option maxRecDepth 100000 in
theorem kX11_in (X : q_X) (l : Launch) (a0 : Int32) (a1 : Int32) (a2 : Int32) (w : q_W) : q_Ct X S_R l mX11_in 0 q_tI [.int a0, .int a1, .int a2] w (fX11_in a0 a1 a2 w) := by
  refine q_intro (lv := [(0, .int a0), (1, .int a1), (2, .int a2)]) (by decide +kernel) rfl (Nat.le_of_ble_eq_true rfl) rfl ?_
  refine q_iload_n 0 eX11_in_0 rfl rfl ?_
  refine q_iload_n 1 eX11_in_1 rfl rfl ?_
  refine q_icmp_lt (tgt := 14) eX11_in_2 (by decide) (fun _ => ?_) (fun _ => ?_)
  · refine q_iconst eX11_in_14 kiconst_0 ?_
    exact q_zret eX11_in_15 rfl rfl
  · refine q_iload_n 0 eX11_in_5 rfl rfl ?_
    refine q_iload_n 2 eX11_in_6 rfl rfl ?_
    refine q_icmp_gt (tgt := 14) eX11_in_7 (by decide) (fun _ => ?_) (fun _ => ?_)
    · refine q_iconst eX11_in_14 kiconst_0 ?_
      exact q_zret eX11_in_15 rfl rfl
    · refine q_iconst eX11_in_10 kiconst_1 ?_
      refine q_goto (tgt := 15) eX11_in_11 (by decide) ?_
      exact q_zret eX11_in_15 rfl rfl
def fX11_isStroke (a1 : Int32) (w : q_W) : Option (Int32 × q_W) :=
  if a1 = 0 then
    if q_inb 0 6 then
    q_b (fX11_in (w.1 26 (q_ix 0)) 0 1023 w) fun r1 w2 =>
    if r1 = 0 then
      some (0, w2)
    else
      if q_inb 1 6 then
      q_b (fX11_in (w2.1 26 (q_ix 1)) 0 1023 w2) fun r3 w4 =>
      if r3 = 0 then
        some (0, w4)
      else
        if q_inb 2 6 then
        q_b (fX11_in (w4.1 26 (q_ix 2)) 1 512 w4) fun r5 w6 =>
        if r5 = 0 then
          some (0, w6)
        else
          if q_inb 3 6 then
          q_b (fX11_in (w6.1 26 (q_ix 3)) 0 7 w6) fun r7 w8 =>
          if r7 = 0 then
            some (0, w8)
          else
            some (1, w8)
          else none
        else none
      else none
    else none
  else
    if q_inb 0 6 then
    q_b (fX11_in (w.1 26 (q_ix 0)) 0 1 w) fun r9 w10 =>
    if r9 = 0 then
      some (0, w10)
    else
      if a1 = 1 then
        if q_inb 1 6 then
        q_b (fX11_in (w10.1 26 (q_ix 1)) 0 1023 w10) fun r11 w12 =>
        if r11 = 0 then
          some (0, w12)
        else
          if q_inb 2 6 then
          q_b (fX11_in (w12.1 26 (q_ix 2)) (-1023) 1023 w12) fun r13 w14 =>
          if r13 = 0 then
            some (0, w14)
          else
            if q_inb 3 6 then
            q_b (fX11_in (w14.1 26 (q_ix 3)) 1 1023 w14) fun r15 w16 =>
            if r15 = 0 then
              some (0, w16)
            else
              some (1, w16)
            else none
          else none
        else none
      else
        if a1 = 2 then
          if q_inb 1 6 then
          q_b (fX11_in (w10.1 26 (q_ix 1)) 0 1023 w10) fun r17 w18 =>
          if r17 = 0 then
            some (0, w18)
          else
            if q_inb 2 6 then
            q_b (fX11_in (w18.1 26 (q_ix 2)) 1 1023 w18) fun r19 w20 =>
            if r19 = 0 then
              some (0, w20)
            else
              if q_inb 3 6 then
              q_b (fX11_in (w20.1 26 (q_ix 3)) 1 20 w20) fun r21 w22 =>
              if r21 = 0 then
                some (0, w22)
              else
                if q_inb 4 6 then
                q_b (fX11_in (w22.1 26 (q_ix 4)) (-1023) 1023 w22) fun r23 w24 =>
                if r23 = 0 then
                  some (0, w24)
                else
                  if q_inb 5 6 then
                  q_b (fX11_in (w24.1 26 (q_ix 5)) 1 1023 w24) fun r25 w26 =>
                  if r25 = 0 then
                    some (0, w26)
                  else
                    some (1, w26)
                  else none
                else none
              else none
            else none
          else none
        else
          if q_inb 1 6 then
          q_b (fX11_in (w10.1 26 (q_ix 1)) 2 1024 w10) fun r27 w28 =>
          if r27 = 0 then
            some (0, w28)
          else
            if q_inb 2 6 then
            q_b (fX11_in (w28.1 26 (q_ix 2)) (-1023) 1023 w28) fun r29 w30 =>
            if r29 = 0 then
              some (0, w30)
            else
              some (1, w30)
            else none
          else none
    else none
set_option maxHeartbeats 4000000 in
set_option maxRecDepth 100000 in
theorem kX11_isStroke (X : q_X) (l : Launch) (a1 : Int32) (w : q_W) : q_Ct X S_R l mX11_isStroke 1 q_tI [.ref 0, .int a1] w (fX11_isStroke a1 w) := by
  refine q_intro (lv := [(0, .ref 0), (1, .int a1)]) (by decide +kernel) rfl (Nat.le_of_ble_eq_true rfl) rfl ?_
  refine q_iload_n 1 eX11_isStroke_0 rfl rfl ?_
  refine q_if_ne (tgt := 73) eX11_isStroke_1 (by decide) (fun _ => ?_) (fun _ => ?_)
  · refine q_aload_n 0 eX11_isStroke_4 rfl rfl ?_
    refine q_getG (v := 26) eX11_isStroke_5 fl_11_94 tR_0 rfl gR_0_49 ?_
    refine q_iconst eX11_isStroke_8 kiconst_0 ?_
    refine q_iald eX11_isStroke_9 tR_26 nR_26 ?_
    refine q_iconst eX11_isStroke_10 kiconst_0 ?_
    refine q_sipush eX11_isStroke_11 ksipush_1023 ?_
    refine q_callSI (As := [.int (w.1 26 (q_ix 0)), .int 0, .int 1023]) (st := []) eX11_isStroke_14 cv_11_316 (kX11_in X l (w.1 26 (q_ix 0)) 0 1023 w) rfl rfl (Nat.le_of_ble_eq_true rfl) (by decide) (fun r1 w2 => ?_)
    refine q_if_eq (tgt := 71) eX11_isStroke_17 (by decide) (fun _ => ?_) (fun _ => ?_)
    · refine q_iconst eX11_isStroke_71 kiconst_0 ?_
      exact q_zret eX11_isStroke_72 rfl rfl
    · refine q_aload_n 0 eX11_isStroke_20 rfl rfl ?_
      refine q_getG (v := 26) eX11_isStroke_21 fl_11_94 tR_0 rfl gR_0_49 ?_
      refine q_iconst eX11_isStroke_24 kiconst_1 ?_
      refine q_iald eX11_isStroke_25 tR_26 nR_26 ?_
      refine q_iconst eX11_isStroke_26 kiconst_0 ?_
      refine q_sipush eX11_isStroke_27 ksipush_1023 ?_
      refine q_callSI (As := [.int (w2.1 26 (q_ix 1)), .int 0, .int 1023]) (st := []) eX11_isStroke_30 cv_11_316 (kX11_in X l (w2.1 26 (q_ix 1)) 0 1023 w2) rfl rfl (Nat.le_of_ble_eq_true rfl) (by decide) (fun r3 w4 => ?_)
      refine q_if_eq (tgt := 71) eX11_isStroke_33 (by decide) (fun _ => ?_) (fun _ => ?_)
      · refine q_iconst eX11_isStroke_71 kiconst_0 ?_
        exact q_zret eX11_isStroke_72 rfl rfl
      · refine q_aload_n 0 eX11_isStroke_36 rfl rfl ?_
        refine q_getG (v := 26) eX11_isStroke_37 fl_11_94 tR_0 rfl gR_0_49 ?_
        refine q_iconst eX11_isStroke_40 kiconst_2 ?_
        refine q_iald eX11_isStroke_41 tR_26 nR_26 ?_
        refine q_iconst eX11_isStroke_42 kiconst_1 ?_
        refine q_sipush eX11_isStroke_43 ksipush_512 ?_
        refine q_callSI (As := [.int (w4.1 26 (q_ix 2)), .int 1, .int 512]) (st := []) eX11_isStroke_46 cv_11_316 (kX11_in X l (w4.1 26 (q_ix 2)) 1 512 w4) rfl rfl (Nat.le_of_ble_eq_true rfl) (by decide) (fun r5 w6 => ?_)
        refine q_if_eq (tgt := 71) eX11_isStroke_49 (by decide) (fun _ => ?_) (fun _ => ?_)
        · refine q_iconst eX11_isStroke_71 kiconst_0 ?_
          exact q_zret eX11_isStroke_72 rfl rfl
        · refine q_aload_n 0 eX11_isStroke_52 rfl rfl ?_
          refine q_getG (v := 26) eX11_isStroke_53 fl_11_94 tR_0 rfl gR_0_49 ?_
          refine q_iconst eX11_isStroke_56 kiconst_3 ?_
          refine q_iald eX11_isStroke_57 tR_26 nR_26 ?_
          refine q_iconst eX11_isStroke_58 kiconst_0 ?_
          refine q_bipush eX11_isStroke_59 kbipush_7 ?_
          refine q_callSI (As := [.int (w6.1 26 (q_ix 3)), .int 0, .int 7]) (st := []) eX11_isStroke_61 cv_11_316 (kX11_in X l (w6.1 26 (q_ix 3)) 0 7 w6) rfl rfl (Nat.le_of_ble_eq_true rfl) (by decide) (fun r7 w8 => ?_)
          refine q_if_eq (tgt := 71) eX11_isStroke_64 (by decide) (fun _ => ?_) (fun _ => ?_)
          · refine q_iconst eX11_isStroke_71 kiconst_0 ?_
            exact q_zret eX11_isStroke_72 rfl rfl
          · refine q_iconst eX11_isStroke_67 kiconst_1 ?_
            refine q_goto (tgt := 72) eX11_isStroke_68 (by decide) ?_
            exact q_zret eX11_isStroke_72 rfl rfl
  · refine q_aload_n 0 eX11_isStroke_73 rfl rfl ?_
    refine q_getG (v := 26) eX11_isStroke_74 fl_11_94 tR_0 rfl gR_0_49 ?_
    refine q_iconst eX11_isStroke_77 kiconst_0 ?_
    refine q_iald eX11_isStroke_78 tR_26 nR_26 ?_
    refine q_iconst eX11_isStroke_79 kiconst_0 ?_
    refine q_iconst eX11_isStroke_80 kiconst_1 ?_
    refine q_callSI (As := [.int (w.1 26 (q_ix 0)), .int 0, .int 1]) (st := []) eX11_isStroke_81 cv_11_316 (kX11_in X l (w.1 26 (q_ix 0)) 0 1 w) rfl rfl (Nat.le_of_ble_eq_true rfl) (by decide) (fun r9 w10 => ?_)
    refine q_if_ne (tgt := 89) eX11_isStroke_84 (by decide) (fun _ => ?_) (fun _ => ?_)
    · refine q_iconst eX11_isStroke_87 kiconst_0 ?_
      exact q_zret eX11_isStroke_88 rfl rfl
    · refine q_iload_n 1 eX11_isStroke_89 rfl rfl ?_
      refine q_iconst eX11_isStroke_90 kiconst_1 ?_
      refine q_icmp_ne (tgt := 150) eX11_isStroke_91 (by decide) (fun _ => ?_) (fun _ => ?_)
      · refine q_aload_n 0 eX11_isStroke_94 rfl rfl ?_
        refine q_getG (v := 26) eX11_isStroke_95 fl_11_94 tR_0 rfl gR_0_49 ?_
        refine q_iconst eX11_isStroke_98 kiconst_1 ?_
        refine q_iald eX11_isStroke_99 tR_26 nR_26 ?_
        refine q_iconst eX11_isStroke_100 kiconst_0 ?_
        refine q_sipush eX11_isStroke_101 ksipush_1023 ?_
        refine q_callSI (As := [.int (w10.1 26 (q_ix 1)), .int 0, .int 1023]) (st := []) eX11_isStroke_104 cv_11_316 (kX11_in X l (w10.1 26 (q_ix 1)) 0 1023 w10) rfl rfl (Nat.le_of_ble_eq_true rfl) (by decide) (fun r11 w12 => ?_)
        refine q_if_eq (tgt := 148) eX11_isStroke_107 (by decide) (fun _ => ?_) (fun _ => ?_)
        · refine q_iconst eX11_isStroke_148 kiconst_0 ?_
          exact q_zret eX11_isStroke_149 rfl rfl
        · refine q_aload_n 0 eX11_isStroke_110 rfl rfl ?_
          refine q_getG (v := 26) eX11_isStroke_111 fl_11_94 tR_0 rfl gR_0_49 ?_
          refine q_iconst eX11_isStroke_114 kiconst_2 ?_
          refine q_iald eX11_isStroke_115 tR_26 nR_26 ?_
          refine q_sipush eX11_isStroke_116 ksipush_m1023 ?_
          refine q_sipush eX11_isStroke_119 ksipush_1023 ?_
          refine q_callSI (As := [.int (w12.1 26 (q_ix 2)), .int (-1023), .int 1023]) (st := []) eX11_isStroke_122 cv_11_316 (kX11_in X l (w12.1 26 (q_ix 2)) (-1023) 1023 w12) rfl rfl (Nat.le_of_ble_eq_true rfl) (by decide) (fun r13 w14 => ?_)
          refine q_if_eq (tgt := 148) eX11_isStroke_125 (by decide) (fun _ => ?_) (fun _ => ?_)
          · refine q_iconst eX11_isStroke_148 kiconst_0 ?_
            exact q_zret eX11_isStroke_149 rfl rfl
          · refine q_aload_n 0 eX11_isStroke_128 rfl rfl ?_
            refine q_getG (v := 26) eX11_isStroke_129 fl_11_94 tR_0 rfl gR_0_49 ?_
            refine q_iconst eX11_isStroke_132 kiconst_3 ?_
            refine q_iald eX11_isStroke_133 tR_26 nR_26 ?_
            refine q_iconst eX11_isStroke_134 kiconst_1 ?_
            refine q_sipush eX11_isStroke_135 ksipush_1023 ?_
            refine q_callSI (As := [.int (w14.1 26 (q_ix 3)), .int 1, .int 1023]) (st := []) eX11_isStroke_138 cv_11_316 (kX11_in X l (w14.1 26 (q_ix 3)) 1 1023 w14) rfl rfl (Nat.le_of_ble_eq_true rfl) (by decide) (fun r15 w16 => ?_)
            refine q_if_eq (tgt := 148) eX11_isStroke_141 (by decide) (fun _ => ?_) (fun _ => ?_)
            · refine q_iconst eX11_isStroke_148 kiconst_0 ?_
              exact q_zret eX11_isStroke_149 rfl rfl
            · refine q_iconst eX11_isStroke_144 kiconst_1 ?_
              refine q_goto (tgt := 149) eX11_isStroke_145 (by decide) ?_
              exact q_zret eX11_isStroke_149 rfl rfl
      · refine q_iload_n 1 eX11_isStroke_150 rfl rfl ?_
        refine q_iconst eX11_isStroke_151 kiconst_2 ?_
        refine q_icmp_ne (tgt := 242) eX11_isStroke_152 (by decide) (fun _ => ?_) (fun _ => ?_)
        · refine q_aload_n 0 eX11_isStroke_155 rfl rfl ?_
          refine q_getG (v := 26) eX11_isStroke_156 fl_11_94 tR_0 rfl gR_0_49 ?_
          refine q_iconst eX11_isStroke_159 kiconst_1 ?_
          refine q_iald eX11_isStroke_160 tR_26 nR_26 ?_
          refine q_iconst eX11_isStroke_161 kiconst_0 ?_
          refine q_sipush eX11_isStroke_162 ksipush_1023 ?_
          refine q_callSI (As := [.int (w10.1 26 (q_ix 1)), .int 0, .int 1023]) (st := []) eX11_isStroke_165 cv_11_316 (kX11_in X l (w10.1 26 (q_ix 1)) 0 1023 w10) rfl rfl (Nat.le_of_ble_eq_true rfl) (by decide) (fun r17 w18 => ?_)
          refine q_if_eq (tgt := 240) eX11_isStroke_168 (by decide) (fun _ => ?_) (fun _ => ?_)
          · refine q_iconst eX11_isStroke_240 kiconst_0 ?_
            exact q_zret eX11_isStroke_241 rfl rfl
          · refine q_aload_n 0 eX11_isStroke_171 rfl rfl ?_
            refine q_getG (v := 26) eX11_isStroke_172 fl_11_94 tR_0 rfl gR_0_49 ?_
            refine q_iconst eX11_isStroke_175 kiconst_2 ?_
            refine q_iald eX11_isStroke_176 tR_26 nR_26 ?_
            refine q_iconst eX11_isStroke_177 kiconst_1 ?_
            refine q_sipush eX11_isStroke_178 ksipush_1023 ?_
            refine q_callSI (As := [.int (w18.1 26 (q_ix 2)), .int 1, .int 1023]) (st := []) eX11_isStroke_181 cv_11_316 (kX11_in X l (w18.1 26 (q_ix 2)) 1 1023 w18) rfl rfl (Nat.le_of_ble_eq_true rfl) (by decide) (fun r19 w20 => ?_)
            refine q_if_eq (tgt := 240) eX11_isStroke_184 (by decide) (fun _ => ?_) (fun _ => ?_)
            · refine q_iconst eX11_isStroke_240 kiconst_0 ?_
              exact q_zret eX11_isStroke_241 rfl rfl
            · refine q_aload_n 0 eX11_isStroke_187 rfl rfl ?_
              refine q_getG (v := 26) eX11_isStroke_188 fl_11_94 tR_0 rfl gR_0_49 ?_
              refine q_iconst eX11_isStroke_191 kiconst_3 ?_
              refine q_iald eX11_isStroke_192 tR_26 nR_26 ?_
              refine q_iconst eX11_isStroke_193 kiconst_1 ?_
              refine q_bipush eX11_isStroke_194 kbipush_20 ?_
              refine q_callSI (As := [.int (w20.1 26 (q_ix 3)), .int 1, .int 20]) (st := []) eX11_isStroke_196 cv_11_316 (kX11_in X l (w20.1 26 (q_ix 3)) 1 20 w20) rfl rfl (Nat.le_of_ble_eq_true rfl) (by decide) (fun r21 w22 => ?_)
              refine q_if_eq (tgt := 240) eX11_isStroke_199 (by decide) (fun _ => ?_) (fun _ => ?_)
              · refine q_iconst eX11_isStroke_240 kiconst_0 ?_
                exact q_zret eX11_isStroke_241 rfl rfl
              · refine q_aload_n 0 eX11_isStroke_202 rfl rfl ?_
                refine q_getG (v := 26) eX11_isStroke_203 fl_11_94 tR_0 rfl gR_0_49 ?_
                refine q_iconst eX11_isStroke_206 kiconst_4 ?_
                refine q_iald eX11_isStroke_207 tR_26 nR_26 ?_
                refine q_sipush eX11_isStroke_208 ksipush_m1023 ?_
                refine q_sipush eX11_isStroke_211 ksipush_1023 ?_
                refine q_callSI (As := [.int (w22.1 26 (q_ix 4)), .int (-1023), .int 1023]) (st := []) eX11_isStroke_214 cv_11_316 (kX11_in X l (w22.1 26 (q_ix 4)) (-1023) 1023 w22) rfl rfl (Nat.le_of_ble_eq_true rfl) (by decide) (fun r23 w24 => ?_)
                refine q_if_eq (tgt := 240) eX11_isStroke_217 (by decide) (fun _ => ?_) (fun _ => ?_)
                · refine q_iconst eX11_isStroke_240 kiconst_0 ?_
                  exact q_zret eX11_isStroke_241 rfl rfl
                · refine q_aload_n 0 eX11_isStroke_220 rfl rfl ?_
                  refine q_getG (v := 26) eX11_isStroke_221 fl_11_94 tR_0 rfl gR_0_49 ?_
                  refine q_iconst eX11_isStroke_224 kiconst_5 ?_
                  refine q_iald eX11_isStroke_225 tR_26 nR_26 ?_
                  refine q_iconst eX11_isStroke_226 kiconst_1 ?_
                  refine q_sipush eX11_isStroke_227 ksipush_1023 ?_
                  refine q_callSI (As := [.int (w24.1 26 (q_ix 5)), .int 1, .int 1023]) (st := []) eX11_isStroke_230 cv_11_316 (kX11_in X l (w24.1 26 (q_ix 5)) 1 1023 w24) rfl rfl (Nat.le_of_ble_eq_true rfl) (by decide) (fun r25 w26 => ?_)
                  refine q_if_eq (tgt := 240) eX11_isStroke_233 (by decide) (fun _ => ?_) (fun _ => ?_)
                  · refine q_iconst eX11_isStroke_240 kiconst_0 ?_
                    exact q_zret eX11_isStroke_241 rfl rfl
                  · refine q_iconst eX11_isStroke_236 kiconst_1 ?_
                    refine q_goto (tgt := 241) eX11_isStroke_237 (by decide) ?_
                    exact q_zret eX11_isStroke_241 rfl rfl
        · refine q_aload_n 0 eX11_isStroke_242 rfl rfl ?_
          refine q_getG (v := 26) eX11_isStroke_243 fl_11_94 tR_0 rfl gR_0_49 ?_
          refine q_iconst eX11_isStroke_246 kiconst_1 ?_
          refine q_iald eX11_isStroke_247 tR_26 nR_26 ?_
          refine q_iconst eX11_isStroke_248 kiconst_2 ?_
          refine q_sipush eX11_isStroke_249 ksipush_1024 ?_
          refine q_callSI (As := [.int (w10.1 26 (q_ix 1)), .int 2, .int 1024]) (st := []) eX11_isStroke_252 cv_11_316 (kX11_in X l (w10.1 26 (q_ix 1)) 2 1024 w10) rfl rfl (Nat.le_of_ble_eq_true rfl) (by decide) (fun r27 w28 => ?_)
          refine q_if_eq (tgt := 280) eX11_isStroke_255 (by decide) (fun _ => ?_) (fun _ => ?_)
          · refine q_iconst eX11_isStroke_280 kiconst_0 ?_
            exact q_zret eX11_isStroke_281 rfl rfl
          · refine q_aload_n 0 eX11_isStroke_258 rfl rfl ?_
            refine q_getG (v := 26) eX11_isStroke_259 fl_11_94 tR_0 rfl gR_0_49 ?_
            refine q_iconst eX11_isStroke_262 kiconst_2 ?_
            refine q_iald eX11_isStroke_263 tR_26 nR_26 ?_
            refine q_sipush eX11_isStroke_264 ksipush_m1023 ?_
            refine q_sipush eX11_isStroke_267 ksipush_1023 ?_
            refine q_callSI (As := [.int (w28.1 26 (q_ix 2)), .int (-1023), .int 1023]) (st := []) eX11_isStroke_270 cv_11_316 (kX11_in X l (w28.1 26 (q_ix 2)) (-1023) 1023 w28) rfl rfl (Nat.le_of_ble_eq_true rfl) (by decide) (fun r29 w30 => ?_)
            refine q_if_eq (tgt := 280) eX11_isStroke_273 (by decide) (fun _ => ?_) (fun _ => ?_)
            · refine q_iconst eX11_isStroke_280 kiconst_0 ?_
              exact q_zret eX11_isStroke_281 rfl rfl
            · refine q_iconst eX11_isStroke_276 kiconst_1 ?_
              refine q_goto (tgt := 281) eX11_isStroke_277 (by decide) ?_
              exact q_zret eX11_isStroke_281 rfl rfl
def fX11_strokes_h129 (rec129 : Int32 → q_W → Option (Int32 × q_W)) (x5 : Int32) (w : q_W) : Option (Int32 × q_W) :=
  if 6 ≤ x5 then
    q_lt (q_sI w 0 40 ((w.1 0 40) + 1)) fun w1 =>
    some (0, w1)
  else
    if q_inb x5 6 then
    q_lt ((6 * (w.1 0 40)) + x5) fun y2 =>
    if q_inb y2 720 then
    q_lt (q_sI w 22 (q_ix y2) (w.1 26 (q_ix x5))) fun w3 =>
    q_lt (x5 + 1) fun y4 =>
    rec129 y4 w3
    else none
    else none
def fX11_strokes_l129 : Int32 → q_W → Option (Int32 × q_W) := q_it q_N (fX11_strokes_h129) (fun _ _ => none)
set_option maxHeartbeats 4000000 in
set_option maxRecDepth 100000 in
theorem jX11_strokes_h129 (X : q_X) (l : Launch) (rec129 : Int32 → q_W → Option (Int32 × q_W)) (hr129 : ∀ x5 w, q_J X S_R l mX11_strokes 2 q_tI 129 [(0, .ref 0), (5, .int x5)] [] w (rec129 x5 w)) : ∀ x5 w, q_J X S_R l mX11_strokes 2 q_tI 129 [(0, .ref 0), (5, .int x5)] [] w (fX11_strokes_h129 rec129 x5 w) := by
  intro x5 w
  refine q_iload 1 eX11_strokes_129 rfl ?_
  refine q_bipush eX11_strokes_131 kbipush_6 ?_
  refine q_icmp_ge (tgt := 164) eX11_strokes_133 (by decide) (fun _ => ?_) (fun _ => ?_)
  · refine q_aload_n 0 eX11_strokes_164 rfl rfl ?_
    refine q_dup eX11_strokes_165 rfl ?_
    refine q_getI eX11_strokes_166 fl_11_293 tR_0 rfl ?_
    refine q_iconst eX11_strokes_169 kiconst_1 ?_
    refine q_iadd eX11_strokes_170 ?_
    refine q_putI eX11_strokes_171 fp_11_293 tR_0 rfl ⟨rfl, rfl⟩ ?_
    refine q_ltW (fun w1 => ?_)
    refine q_iconst eX11_strokes_174 kiconst_0 ?_
    exact q_ireturn eX11_strokes_175 rfl
  · refine q_aload_n 0 eX11_strokes_136 rfl rfl ?_
    refine q_getG (v := 22) eX11_strokes_137 fl_11_82 tR_0 rfl gR_0_43 ?_
    refine q_bipush eX11_strokes_140 kbipush_6 ?_
    refine q_aload_n 0 eX11_strokes_142 rfl rfl ?_
    refine q_getI eX11_strokes_143 fl_11_293 tR_0 rfl ?_
    refine q_imul eX11_strokes_146 ?_
    refine q_iload 1 eX11_strokes_147 rfl ?_
    refine q_iadd eX11_strokes_149 ?_
    refine q_aload_n 0 eX11_strokes_150 rfl rfl ?_
    refine q_getG (v := 26) eX11_strokes_151 fl_11_94 tR_0 rfl gR_0_49 ?_
    refine q_iload 1 eX11_strokes_154 rfl ?_
    refine q_iald eX11_strokes_156 tR_26 nR_26 ?_
    refine q_ltI1 (fun y2 => ?_)
    refine q_iast eX11_strokes_157 tR_22 nR_22 ?_
    refine q_ltW (fun w3 => ?_)
    refine q_ltE (fun y4 hy4 => ?_)
    refine q_iinc (v := y4) (lv' := [(5, .int y4), (0, .ref 0)]) 1 eX11_strokes_158 rfl hy4 (by decide) rfl ?_
    refine q_goto (tgt := 129) eX11_strokes_161 (by decide) ?_
    exact q_sub [1, 0] rfl (hr129 y4 w3)
set_option maxHeartbeats 4000000 in
set_option maxRecDepth 100000 in
theorem jX11_strokes_l129 (X : q_X) (l : Launch) : ∀ x5 w, q_J X S_R l mX11_strokes 2 q_tI 129 [(0, .ref 0), (5, .int x5)] [] w (fX11_strokes_l129 x5 w) := by
  exact q_it_ind (fun rc => ∀ x5 w, q_J X S_R l mX11_strokes 2 q_tI 129 [(0, .ref 0), (5, .int x5)] [] w (rc x5 w)) _ _ (fun _ _ => q_none) (fun rc hrc => jX11_strokes_h129 X l rc hrc) q_N
def fX11_strokes_h59 (rec59 : Int32 → Int32 → Int32 → Int32 → q_W → Option (Int32 × q_W)) (x1 : Int32) (x3 : Int32) (x4 : Int32) (x5 : Int32) (w : q_W) : Option (Int32 × q_W) :=
  if x3 ≤ x5 then
    q_b (fX11_isStroke x1 w) fun r1 w2 =>
    if r1 = 0 then
      some (2, w2)
    else
      if (w2.1 0 40) = (w2.1 0 41) then
        some (4, w2)
      else
        q_lt (w2.1 0 40) fun y3 =>
        if q_inb y3 120 then
        q_lt (q_sI w2 21 (q_ix y3) x1) fun w4 =>
        fX11_strokes_l129 0 w4
        else none
  else
    q_lt ((w.1 0 48) + x5) fun y5 =>
    if q_inb y5 600 then
    q_lt (x4 + x5) fun y6 =>
    if q_inb y6 6 then
    q_lt (q_sI w 26 (q_ix y6) (w.1 25 (q_ix y5))) fun w7 =>
    q_lt (x5 + 1) fun y8 =>
    rec59 x1 x3 x4 y8 w7
    else none
    else none
def fX11_strokes_l59 : Int32 → Int32 → Int32 → Int32 → q_W → Option (Int32 × q_W) := q_it q_N (fX11_strokes_h59) (fun _ _ _ _ _ => none)
set_option maxHeartbeats 4000000 in
set_option maxRecDepth 100000 in
theorem jX11_strokes_h59 (X : q_X) (l : Launch) (rec59 : Int32 → Int32 → Int32 → Int32 → q_W → Option (Int32 × q_W)) (hr59 : ∀ x1 x3 x4 x5 w, q_J X S_R l mX11_strokes 2 q_tI 59 [(0, .ref 0), (1, .int x1), (3, .int x3), (4, .int x4), (5, .int x5)] [] w (rec59 x1 x3 x4 x5 w)) : ∀ x1 x3 x4 x5 w, q_J X S_R l mX11_strokes 2 q_tI 59 [(0, .ref 0), (1, .int x1), (3, .int x3), (4, .int x4), (5, .int x5)] [] w (fX11_strokes_h59 rec59 x1 x3 x4 x5 w) := by
  intro x1 x3 x4 x5 w
  refine q_iload 4 eX11_strokes_59 rfl ?_
  refine q_iload_n 2 eX11_strokes_61 rfl rfl ?_
  refine q_icmp_ge (tgt := 93) eX11_strokes_62 (by decide) (fun _ => ?_) (fun _ => ?_)
  · refine q_aload_n 0 eX11_strokes_93 rfl rfl ?_
    refine q_iload_n 1 eX11_strokes_94 rfl rfl ?_
    refine q_callVI (As := [.int x1]) (st := []) eX11_strokes_95 cv_11_313 (kX11_isStroke X l x1 w) tR_0 rfl (by decide) rfl rfl (Nat.le_of_ble_eq_true rfl) (by decide) (fun r1 w2 => ?_)
    refine q_if_ne (tgt := 103) eX11_strokes_98 (by decide) (fun _ => ?_) (fun _ => ?_)
    · refine q_iconst eX11_strokes_101 kiconst_2 ?_
      exact q_ireturn eX11_strokes_102 rfl
    · refine q_aload_n 0 eX11_strokes_103 rfl rfl ?_
      refine q_getI eX11_strokes_104 fl_11_293 tR_0 rfl ?_
      refine q_aload_n 0 eX11_strokes_107 rfl rfl ?_
      refine q_getI eX11_strokes_108 fl_11_296 tR_0 rfl ?_
      refine q_icmp_ne (tgt := 116) eX11_strokes_111 (by decide) (fun _ => ?_) (fun _ => ?_)
      · refine q_iconst eX11_strokes_114 kiconst_4 ?_
        exact q_ireturn eX11_strokes_115 rfl
      · refine q_aload_n 0 eX11_strokes_116 rfl rfl ?_
        refine q_getG (v := 21) eX11_strokes_117 fl_11_79 tR_0 rfl gR_0_42 ?_
        refine q_aload_n 0 eX11_strokes_120 rfl rfl ?_
        refine q_getI eX11_strokes_121 fl_11_293 tR_0 rfl ?_
        refine q_iload_n 1 eX11_strokes_124 rfl rfl ?_
        refine q_ltI1 (fun y3 => ?_)
        refine q_iast eX11_strokes_125 tR_21 nR_21 ?_
        refine q_ltW (fun w4 => ?_)
        refine q_iconst eX11_strokes_126 kiconst_0 ?_
        refine q_istore (lv' := [(5, .int 0), (0, .ref 0), (1, .int x1), (3, .int x3), (4, .int x4)]) eX11_strokes_127 (by decide) rfl ?_
        exact q_sub [1, 0] rfl (jX11_strokes_l129 X l 0 w4)
  · refine q_aload_n 0 eX11_strokes_65 rfl rfl ?_
    refine q_getG (v := 26) eX11_strokes_66 fl_11_94 tR_0 rfl gR_0_49 ?_
    refine q_iload 3 eX11_strokes_69 rfl ?_
    refine q_iload 4 eX11_strokes_71 rfl ?_
    refine q_iadd eX11_strokes_73 ?_
    refine q_aload_n 0 eX11_strokes_74 rfl rfl ?_
    refine q_getG (v := 25) eX11_strokes_75 fl_11_91 tR_0 rfl gR_0_47 ?_
    refine q_aload_n 0 eX11_strokes_78 rfl rfl ?_
    refine q_getI eX11_strokes_79 fl_11_299 tR_0 rfl ?_
    refine q_iload 4 eX11_strokes_82 rfl ?_
    refine q_iadd eX11_strokes_84 ?_
    refine q_ltI (fun y5 => ?_)
    refine q_iald eX11_strokes_85 tR_25 nR_25 ?_
    refine q_ltI1 (fun y6 => ?_)
    refine q_iast eX11_strokes_86 tR_26 nR_26 ?_
    refine q_ltW (fun w7 => ?_)
    refine q_ltE (fun y8 hy8 => ?_)
    refine q_iinc (v := y8) (lv' := [(5, .int y8), (0, .ref 0), (1, .int x1), (3, .int x3), (4, .int x4)]) 4 eX11_strokes_87 rfl hy8 (by decide) rfl ?_
    refine q_goto (tgt := 59) eX11_strokes_90 (by decide) ?_
    exact q_sub [1, 2, 3, 4, 0] rfl (hr59 x1 x3 x4 y8 w7)
set_option maxHeartbeats 4000000 in
set_option maxRecDepth 100000 in
theorem jX11_strokes_l59 (X : q_X) (l : Launch) : ∀ x1 x3 x4 x5 w, q_J X S_R l mX11_strokes 2 q_tI 59 [(0, .ref 0), (1, .int x1), (3, .int x3), (4, .int x4), (5, .int x5)] [] w (fX11_strokes_l59 x1 x3 x4 x5 w) := by
  exact q_it_ind (fun rc => ∀ x1 x3 x4 x5 w, q_J X S_R l mX11_strokes 2 q_tI 59 [(0, .ref 0), (1, .int x1), (3, .int x3), (4, .int x4), (5, .int x5)] [] w (rc x1 x3 x4 x5 w)) _ _ (fun _ _ _ _ _ => q_none) (fun rc hrc => jX11_strokes_h59 X l rc hrc) q_N
def fX11_strokes_n37 (x1 : Int32) (x2 : Int32) (x3 : Int32) (s0 : Int32) (w : q_W) : Option (Int32 × q_W) :=
  q_lt (q_sI w 0 48 ((w.1 0 48) - x3)) fun w1 =>
  if q_inb 0 6 then
  q_lt (q_sI w1 26 (q_ix 0) x2) fun w2 =>
  fX11_strokes_l59 x1 x3 s0 0 w2
  else none
set_option maxHeartbeats 4000000 in
set_option maxRecDepth 100000 in
theorem jX11_strokes_n37 (X : q_X) (l : Launch) (x1 : Int32) (x2 : Int32) (x3 : Int32) (s0 : Int32) (w : q_W) : q_J X S_R l mX11_strokes 2 q_tI 37 [(0, .ref 0), (1, .int x1), (2, .int x2), (3, .int x3)] [.int s0] w (fX11_strokes_n37 x1 x2 x3 s0 w) := by
  refine q_istore (lv' := [(4, .int s0), (0, .ref 0), (1, .int x1), (2, .int x2), (3, .int x3)]) eX11_strokes_37 (by decide) rfl ?_
  refine q_aload_n 1 eX11_strokes_39 rfl rfl ?_
  refine q_dup eX11_strokes_40 rfl ?_
  refine q_getI eX11_strokes_41 fl_11_299 tR_0 rfl ?_
  refine q_iload_n 4 eX11_strokes_44 rfl rfl ?_
  refine q_isub eX11_strokes_45 ?_
  refine q_putI eX11_strokes_46 fp_11_299 tR_0 rfl ⟨rfl, rfl⟩ ?_
  refine q_ltW (fun w1 => ?_)
  refine q_aload_n 1 eX11_strokes_49 rfl rfl ?_
  refine q_getG (v := 26) eX11_strokes_50 fl_11_94 tR_0 rfl gR_0_49 ?_
  refine q_iconst eX11_strokes_53 kiconst_0 ?_
  refine q_iload_n 3 eX11_strokes_54 rfl rfl ?_
  refine q_iast eX11_strokes_55 tR_26 nR_26 ?_
  refine q_ltW (fun w2 => ?_)
  refine q_iconst eX11_strokes_56 kiconst_0 ?_
  refine q_istore (lv' := [(5, .int 0), (4, .int s0), (0, .ref 0), (1, .int x1), (2, .int x2), (3, .int x3)]) eX11_strokes_57 (by decide) rfl ?_
  exact q_sub [2, 3, 5, 1, 0] rfl (jX11_strokes_l59 X l x1 x3 s0 0 w2)
def fX11_strokes_n27 (x1 : Int32) (x2 : Int32) (s0 : Int32) (w : q_W) : Option (Int32 × q_W) :=
  if x1 = 0 then
    fX11_strokes_n37 x1 x2 s0 0 w
  else
    fX11_strokes_n37 x1 x2 s0 1 w
set_option maxHeartbeats 4000000 in
set_option maxRecDepth 100000 in
theorem jX11_strokes_n27 (X : q_X) (l : Launch) (x1 : Int32) (x2 : Int32) (s0 : Int32) (w : q_W) : q_J X S_R l mX11_strokes 2 q_tI 27 [(0, .ref 0), (1, .int x1), (2, .int x2)] [.int s0] w (fX11_strokes_n27 x1 x2 s0 w) := by
  refine q_istore_n (lv' := [(3, .int s0), (0, .ref 0), (1, .int x1), (2, .int x2)]) eX11_strokes_27 rfl (by decide) rfl ?_
  refine q_iload_n 2 eX11_strokes_28 rfl rfl ?_
  refine q_if_ne (tgt := 36) eX11_strokes_29 (by decide) (fun _ => ?_) (fun _ => ?_)
  · refine q_iconst eX11_strokes_32 kiconst_0 ?_
    refine q_goto (tgt := 37) eX11_strokes_33 (by decide) ?_
    exact q_sub [1, 2, 3, 0] rfl (jX11_strokes_n37 X l x1 x2 s0 0 w)
  · refine q_iconst eX11_strokes_36 kiconst_1 ?_
    exact q_sub [1, 2, 3, 0] rfl (jX11_strokes_n37 X l x1 x2 s0 1 w)
def fX11_strokes (a1 : Int32) (a2 : Int32) (w : q_W) : Option (Int32 × q_W) :=
  if a1 = 0 then
    fX11_strokes_n27 a1 a2 4 w
  else
    if a1 = 1 then
      fX11_strokes_n27 a1 a2 3 w
    else
      if a1 = 2 then
        fX11_strokes_n27 a1 a2 5 w
      else
        fX11_strokes_n27 a1 a2 2 w
set_option maxHeartbeats 4000000 in
set_option maxRecDepth 100000 in
theorem kX11_strokes (X : q_X) (l : Launch) (a1 : Int32) (a2 : Int32) (w : q_W) : q_Ct X S_R l mX11_strokes 2 q_tI [.ref 0, .int a1, .int a2] w (fX11_strokes a1 a2 w) := by
  refine q_intro (lv := [(0, .ref 0), (1, .int a1), (2, .int a2)]) (by decide +kernel) rfl (Nat.le_of_ble_eq_true rfl) rfl ?_
  refine q_iload_n 1 eX11_strokes_0 rfl rfl ?_
  refine q_if_ne (tgt := 8) eX11_strokes_1 (by decide) (fun _ => ?_) (fun _ => ?_)
  · refine q_iconst eX11_strokes_4 kiconst_4 ?_
    refine q_goto (tgt := 27) eX11_strokes_5 (by decide) ?_
    exact q_sub [0, 1, 2] rfl (jX11_strokes_n27 X l a1 a2 4 w)
  · refine q_iload_n 1 eX11_strokes_8 rfl rfl ?_
    refine q_iconst eX11_strokes_9 kiconst_1 ?_
    refine q_icmp_ne (tgt := 17) eX11_strokes_10 (by decide) (fun _ => ?_) (fun _ => ?_)
    · refine q_iconst eX11_strokes_13 kiconst_3 ?_
      refine q_goto (tgt := 27) eX11_strokes_14 (by decide) ?_
      exact q_sub [0, 1, 2] rfl (jX11_strokes_n27 X l a1 a2 3 w)
    · refine q_iload_n 1 eX11_strokes_17 rfl rfl ?_
      refine q_iconst eX11_strokes_18 kiconst_2 ?_
      refine q_icmp_ne (tgt := 26) eX11_strokes_19 (by decide) (fun _ => ?_) (fun _ => ?_)
      · refine q_iconst eX11_strokes_22 kiconst_5 ?_
        refine q_goto (tgt := 27) eX11_strokes_23 (by decide) ?_
        exact q_sub [0, 1, 2] rfl (jX11_strokes_n27 X l a1 a2 5 w)
      · refine q_iconst eX11_strokes_26 kiconst_2 ?_
        exact q_sub [0, 1, 2] rfl (jX11_strokes_n27 X l a1 a2 2 w)
