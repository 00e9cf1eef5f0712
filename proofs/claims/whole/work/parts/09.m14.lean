/-! methods, printed by program: X11_hangs X11_pieces X11_largest X11_differs X11_edge X11_match X11_unlikes X11_unlike X11_offOf X11_bestOf X11_made X11_off X11_row X11_rowed X11_count -/
def fX11_hangs_n212 (rec34 : Int32 → q_W → Option (Unit × q_W)) (x1 : Int32) (w : q_W) : Option (Unit × q_W) :=
  q_lt (x1 + 1) fun y1 =>
  rec34 y1 w
set_option maxHeartbeats 4000000 in
set_option maxRecDepth 100000 in
theorem jX11_hangs_n212 (X : q_X) (l : Launch) (rec34 : Int32 → q_W → Option (Unit × q_W)) (hr34 : ∀ x1 w, q_J X S_R l mX11_hangs 2 q_tV 34 [(0, .ref 0), (1, .int x1)] [] w (rec34 x1 w)) (x1 : Int32) (w : q_W) : q_J X S_R l mX11_hangs 2 q_tV 212 [(0, .ref 0), (1, .int x1)] [] w (fX11_hangs_n212 rec34 x1 w) := by
  refine q_ltE (fun y1 hy1 => ?_)
  refine q_iinc (v := y1) (lv' := [(1, .int y1), (0, .ref 0)]) 1 eX11_hangs_212 rfl hy1 (by decide) rfl ?_
  refine q_goto (tgt := 34) eX11_hangs_215 (by decide) ?_
  exact q_sub [1, 0] rfl (hr34 y1 w)
def fX11_hangs_h88 (rec34 : Int32 → q_W → Option (Unit × q_W)) (rec88 : Int32 → Int32 → q_W → Option (Unit × q_W)) (x1 : Int32) (x2 : Int32) (w : q_W) : Option (Unit × q_W) :=
  if (w.1 0 68) ≤ x2 then
    q_lt (q_sI w 0 64 ((w.1 0 64) + 1)) fun w1 =>
    if (w1.1 0 68) ≤ (w1.1 0 65) then
      fX11_hangs_n212 rec34 x1 w1
    else
      q_lt (q_sI w1 0 65 (w1.1 0 68)) fun w2 =>
      fX11_hangs_n212 rec34 x1 w2
  else
    if q_inb x2 256 then
    q_lt ((w.1 34 (q_ix x2)) / 16) fun y3 =>
    if q_inb x2 256 then
    q_lt (w.1 34 (q_ix x2)) fun y4 =>
    q_lt (y4 - y4 / 16 * 16) fun y5 =>
    if q_inb x1 512 then
    q_b (fX11_meets (w.1 32 (q_ix x1)) (y3 - 1) y5 w) fun r6 w7 =>
    if q_inb x1 512 then
    q_b (fX11_meets (w7.1 32 (q_ix x1)) (y3 + 1) y5 w7) fun r8 w9 =>
    if q_inb x1 512 then
    q_b (fX11_meets (w9.1 32 (q_ix x1)) y3 (y5 - 1) w9) fun r10 w11 =>
    if q_inb x1 512 then
    q_b (fX11_meets (w11.1 32 (q_ix x1)) y3 (y5 + 1) w11) fun r12 w13 =>
    q_lt (x2 + 1) fun y14 =>
    rec88 x1 y14 w13
    else none
    else none
    else none
    else none
    else none
    else none
def fX11_hangs_l88 (rec34 : Int32 → q_W → Option (Unit × q_W)) : Int32 → Int32 → q_W → Option (Unit × q_W) := q_it q_N (fX11_hangs_h88 rec34) (fun _ _ _ => none)
set_option maxHeartbeats 4000000 in
set_option maxRecDepth 100000 in
theorem jX11_hangs_h88 (X : q_X) (l : Launch) (rec34 : Int32 → q_W → Option (Unit × q_W)) (hr34 : ∀ x1 w, q_J X S_R l mX11_hangs 2 q_tV 34 [(0, .ref 0), (1, .int x1)] [] w (rec34 x1 w)) (rec88 : Int32 → Int32 → q_W → Option (Unit × q_W)) (hr88 : ∀ x1 x2 w, q_J X S_R l mX11_hangs 2 q_tV 88 [(0, .ref 0), (1, .int x1), (2, .int x2)] [] w (rec88 x1 x2 w)) : ∀ x1 x2 w, q_J X S_R l mX11_hangs 2 q_tV 88 [(0, .ref 0), (1, .int x1), (2, .int x2)] [] w (fX11_hangs_h88 rec34 rec88 x1 x2 w) := by
  intro x1 x2 w
  refine q_iload_n 2 eX11_hangs_88 rfl rfl ?_
  refine q_aload_n 0 eX11_hangs_89 rfl rfl ?_
  refine q_getI eX11_hangs_90 fl_11_406 tR_0 rfl ?_
  refine q_icmp_ge (tgt := 183) eX11_hangs_93 (by decide) (fun _ => ?_) (fun _ => ?_)
  · refine q_aload_n 0 eX11_hangs_183 rfl rfl ?_
    refine q_dup eX11_hangs_184 rfl ?_
    refine q_getI eX11_hangs_185 fl_11_409 tR_0 rfl ?_
    refine q_iconst eX11_hangs_188 kiconst_1 ?_
    refine q_iadd eX11_hangs_189 ?_
    refine q_putI eX11_hangs_190 fp_11_409 tR_0 rfl ⟨rfl, rfl⟩ ?_
    refine q_ltW (fun w1 => ?_)
    refine q_aload_n 0 eX11_hangs_193 rfl rfl ?_
    refine q_getI eX11_hangs_194 fl_11_406 tR_0 rfl ?_
    refine q_aload_n 0 eX11_hangs_197 rfl rfl ?_
    refine q_getI eX11_hangs_198 fl_11_412 tR_0 rfl ?_
    refine q_icmp_le (tgt := 212) eX11_hangs_201 (by decide) (fun _ => ?_) (fun _ => ?_)
    · exact q_sub [0, 1] rfl (jX11_hangs_n212 X l rec34 hr34 x1 w1)
    · refine q_aload_n 0 eX11_hangs_204 rfl rfl ?_
      refine q_aload_n 0 eX11_hangs_205 rfl rfl ?_
      refine q_getI eX11_hangs_206 fl_11_406 tR_0 rfl ?_
      refine q_putI eX11_hangs_209 fp_11_412 tR_0 rfl ⟨rfl, rfl⟩ ?_
      refine q_ltW (fun w2 => ?_)
      exact q_sub [0, 1] rfl (jX11_hangs_n212 X l rec34 hr34 x1 w2)
  · refine q_aload_n 0 eX11_hangs_96 rfl rfl ?_
    refine q_getG (v := 34) eX11_hangs_97 fl_11_122 tR_0 rfl gR_0_67 ?_
    refine q_iload_n 2 eX11_hangs_100 rfl rfl ?_
    refine q_iald eX11_hangs_101 tR_34 nR_34 ?_
    refine q_bipush eX11_hangs_102 kbipush_16 ?_
    refine q_idivc eX11_hangs_104 (by decide) ?_
    refine q_ltI (fun y3 => ?_)
    refine q_istore_n (lv' := [(3, .int y3), (0, .ref 0), (1, .int x1), (2, .int x2)]) eX11_hangs_105 rfl (by decide) rfl ?_
    refine q_aload_n 1 eX11_hangs_106 rfl rfl ?_
    refine q_getG (v := 34) eX11_hangs_107 fl_11_122 tR_0 rfl gR_0_67 ?_
    refine q_iload_n 3 eX11_hangs_110 rfl rfl ?_
    refine q_iald eX11_hangs_111 tR_34 nR_34 ?_
    refine q_bipush eX11_hangs_112 kbipush_16 ?_
    refine q_ltI1 (fun y4 => ?_)
    refine q_iremc eX11_hangs_114 (by decide) ?_
    refine q_ltI (fun y5 => ?_)
    refine q_istore (lv' := [(4, .int y5), (3, .int y3), (0, .ref 0), (1, .int x1), (2, .int x2)]) eX11_hangs_115 (by decide) rfl ?_
    refine q_aload_n 2 eX11_hangs_117 rfl rfl ?_
    refine q_aload_n 2 eX11_hangs_118 rfl rfl ?_
    refine q_getG (v := 32) eX11_hangs_119 fl_11_115 tR_0 rfl gR_0_63 ?_
    refine q_iload_n 3 eX11_hangs_122 rfl rfl ?_
    refine q_iald eX11_hangs_123 tR_32 nR_32 ?_
    refine q_iload_n 1 eX11_hangs_124 rfl rfl ?_
    refine q_iconst eX11_hangs_125 kiconst_1 ?_
    refine q_isub eX11_hangs_126 ?_
    refine q_iload 0 eX11_hangs_127 rfl ?_
    refine q_callVV (As := [.int (w.1 32 (q_ix x1)), .int (y3 - 1), .int y5]) (st := []) eX11_hangs_129 cv_11_415 (kX11_meets X l (w.1 32 (q_ix x1)) (y3 - 1) y5 w) tR_0 rfl (by decide) rfl rfl (Nat.le_of_ble_eq_true rfl) (by decide) (fun r6 w7 => ?_)
    refine q_aload_n 2 eX11_hangs_132 rfl rfl ?_
    refine q_aload_n 2 eX11_hangs_133 rfl rfl ?_
    refine q_getG (v := 32) eX11_hangs_134 fl_11_115 tR_0 rfl gR_0_63 ?_
    refine q_iload_n 3 eX11_hangs_137 rfl rfl ?_
    refine q_iald eX11_hangs_138 tR_32 nR_32 ?_
    refine q_iload_n 1 eX11_hangs_139 rfl rfl ?_
    refine q_iconst eX11_hangs_140 kiconst_1 ?_
    refine q_iadd eX11_hangs_141 ?_
    refine q_iload 0 eX11_hangs_142 rfl ?_
    refine q_callVV (As := [.int (w7.1 32 (q_ix x1)), .int (y3 + 1), .int y5]) (st := []) eX11_hangs_144 cv_11_415 (kX11_meets X l (w7.1 32 (q_ix x1)) (y3 + 1) y5 w7) tR_0 rfl (by decide) rfl rfl (Nat.le_of_ble_eq_true rfl) (by decide) (fun r8 w9 => ?_)
    refine q_aload_n 2 eX11_hangs_147 rfl rfl ?_
    refine q_aload_n 2 eX11_hangs_148 rfl rfl ?_
    refine q_getG (v := 32) eX11_hangs_149 fl_11_115 tR_0 rfl gR_0_63 ?_
    refine q_iload_n 3 eX11_hangs_152 rfl rfl ?_
    refine q_iald eX11_hangs_153 tR_32 nR_32 ?_
    refine q_iload_n 1 eX11_hangs_154 rfl rfl ?_
    refine q_iload 0 eX11_hangs_155 rfl ?_
    refine q_iconst eX11_hangs_157 kiconst_1 ?_
    refine q_isub eX11_hangs_158 ?_
    refine q_callVV (As := [.int (w9.1 32 (q_ix x1)), .int y3, .int (y5 - 1)]) (st := []) eX11_hangs_159 cv_11_415 (kX11_meets X l (w9.1 32 (q_ix x1)) y3 (y5 - 1) w9) tR_0 rfl (by decide) rfl rfl (Nat.le_of_ble_eq_true rfl) (by decide) (fun r10 w11 => ?_)
    refine q_aload_n 2 eX11_hangs_162 rfl rfl ?_
    refine q_aload_n 2 eX11_hangs_163 rfl rfl ?_
    refine q_getG (v := 32) eX11_hangs_164 fl_11_115 tR_0 rfl gR_0_63 ?_
    refine q_iload_n 3 eX11_hangs_167 rfl rfl ?_
    refine q_iald eX11_hangs_168 tR_32 nR_32 ?_
    refine q_iload_n 1 eX11_hangs_169 rfl rfl ?_
    refine q_iload 0 eX11_hangs_170 rfl ?_
    refine q_iconst eX11_hangs_172 kiconst_1 ?_
    refine q_iadd eX11_hangs_173 ?_
    refine q_callVV (As := [.int (w11.1 32 (q_ix x1)), .int y3, .int (y5 + 1)]) (st := []) eX11_hangs_174 cv_11_415 (kX11_meets X l (w11.1 32 (q_ix x1)) y3 (y5 + 1) w11) tR_0 rfl (by decide) rfl rfl (Nat.le_of_ble_eq_true rfl) (by decide) (fun r12 w13 => ?_)
    refine q_ltE (fun y14 hy14 => ?_)
    refine q_iinc (v := y14) (lv' := [(2, .int y14), (4, .int y5), (3, .int y3), (0, .ref 0), (1, .int x1)]) 4 eX11_hangs_177 rfl hy14 (by decide) rfl ?_
    refine q_goto (tgt := 88) eX11_hangs_180 (by decide) ?_
    exact q_sub [3, 4, 0] rfl (hr88 x1 y14 w13)
set_option maxHeartbeats 4000000 in
set_option maxRecDepth 100000 in
theorem jX11_hangs_l88 (X : q_X) (l : Launch) (rec34 : Int32 → q_W → Option (Unit × q_W)) (hr34 : ∀ x1 w, q_J X S_R l mX11_hangs 2 q_tV 34 [(0, .ref 0), (1, .int x1)] [] w (rec34 x1 w)) : ∀ x1 x2 w, q_J X S_R l mX11_hangs 2 q_tV 88 [(0, .ref 0), (1, .int x1), (2, .int x2)] [] w (fX11_hangs_l88 rec34 x1 x2 w) := by
  exact q_it_ind (fun rc => ∀ x1 x2 w, q_J X S_R l mX11_hangs 2 q_tV 88 [(0, .ref 0), (1, .int x1), (2, .int x2)] [] w (rc x1 x2 w)) _ _ (fun _ _ _ => q_none) (fun rc hrc => jX11_hangs_h88 X l rec34 hr34 rc hrc) q_N
def fX11_hangs_h34 (rec34 : Int32 → q_W → Option (Unit × q_W)) (x1 : Int32) (w : q_W) : Option (Unit × q_W) :=
  if 256 ≤ x1 then
    some ((), w)
  else
    if q_inb x1 256 then
    if (w.1 33 (q_ix x1)) = 0 then
      if q_inb x1 512 then
      if (w.1 32 (q_ix x1)) = (-1) then
        fX11_hangs_n212 rec34 x1 w
      else
        q_lt (q_sI w 0 68 0) fun w1 =>
        if q_inb x1 512 then
        q_b (fX11_meets (w1.1 32 (q_ix x1)) (x1 / 16) (x1 - x1 / 16 * 16) w1) fun r2 w3 =>
        fX11_hangs_l88 rec34 x1 0 w3
        else none
      else none
    else
      fX11_hangs_n212 rec34 x1 w
    else none
def fX11_hangs_l34 : Int32 → q_W → Option (Unit × q_W) := q_it q_N (fX11_hangs_h34) (fun _ _ => none)
set_option maxHeartbeats 4000000 in
set_option maxRecDepth 100000 in
theorem jX11_hangs_h34 (X : q_X) (l : Launch) (rec34 : Int32 → q_W → Option (Unit × q_W)) (hr34 : ∀ x1 w, q_J X S_R l mX11_hangs 2 q_tV 34 [(0, .ref 0), (1, .int x1)] [] w (rec34 x1 w)) : ∀ x1 w, q_J X S_R l mX11_hangs 2 q_tV 34 [(0, .ref 0), (1, .int x1)] [] w (fX11_hangs_h34 rec34 x1 w) := by
  intro x1 w
  refine q_iload_n 1 eX11_hangs_34 rfl rfl ?_
  refine q_sipush eX11_hangs_35 ksipush_256 ?_
  refine q_icmp_ge (tgt := 218) eX11_hangs_38 (by decide) (fun _ => ?_) (fun _ => ?_)
  · exact q_return eX11_hangs_218 rfl
  · refine q_aload_n 0 eX11_hangs_41 rfl rfl ?_
    refine q_getG (v := 33) eX11_hangs_42 fl_11_118 tR_0 rfl gR_0_66 ?_
    refine q_iload_n 1 eX11_hangs_45 rfl rfl ?_
    refine q_zald eX11_hangs_46 tR_33 nR_33 ?_
    refine q_if_ne (tgt := 212) eX11_hangs_47 (by decide) (fun _ => ?_) (fun _ => ?_)
    · refine q_aload_n 0 eX11_hangs_50 rfl rfl ?_
      refine q_getG (v := 32) eX11_hangs_51 fl_11_115 tR_0 rfl gR_0_63 ?_
      refine q_iload_n 1 eX11_hangs_54 rfl rfl ?_
      refine q_iald eX11_hangs_55 tR_32 nR_32 ?_
      refine q_iconst eX11_hangs_56 kiconst_m1 ?_
      refine q_icmp_ne (tgt := 63) eX11_hangs_57 (by decide) (fun _ => ?_) (fun _ => ?_)
      · refine q_goto (tgt := 212) eX11_hangs_60 (by decide) ?_
        exact q_sub [0, 1] rfl (jX11_hangs_n212 X l rec34 hr34 x1 w)
      · refine q_aload_n 0 eX11_hangs_63 rfl rfl ?_
        refine q_iconst eX11_hangs_64 kiconst_0 ?_
        refine q_putI eX11_hangs_65 fp_11_406 tR_0 rfl ⟨rfl, rfl⟩ ?_
        refine q_ltW (fun w1 => ?_)
        refine q_aload_n 0 eX11_hangs_68 rfl rfl ?_
        refine q_aload_n 0 eX11_hangs_69 rfl rfl ?_
        refine q_getG (v := 32) eX11_hangs_70 fl_11_115 tR_0 rfl gR_0_63 ?_
        refine q_iload_n 1 eX11_hangs_73 rfl rfl ?_
        refine q_iald eX11_hangs_74 tR_32 nR_32 ?_
        refine q_iload_n 1 eX11_hangs_75 rfl rfl ?_
        refine q_bipush eX11_hangs_76 kbipush_16 ?_
        refine q_idivc eX11_hangs_78 (by decide) ?_
        refine q_iload_n 1 eX11_hangs_79 rfl rfl ?_
        refine q_bipush eX11_hangs_80 kbipush_16 ?_
        refine q_iremc eX11_hangs_82 (by decide) ?_
        refine q_callVV (As := [.int (w1.1 32 (q_ix x1)), .int (x1 / 16), .int (x1 - x1 / 16 * 16)]) (st := []) eX11_hangs_83 cv_11_415 (kX11_meets X l (w1.1 32 (q_ix x1)) (x1 / 16) (x1 - x1 / 16 * 16) w1) tR_0 rfl (by decide) rfl rfl (Nat.le_of_ble_eq_true rfl) (by decide) (fun r2 w3 => ?_)
        refine q_iconst eX11_hangs_86 kiconst_0 ?_
        refine q_istore_n (lv' := [(2, .int 0), (0, .ref 0), (1, .int x1)]) eX11_hangs_87 rfl (by decide) rfl ?_
        exact q_sub [1, 2, 0] rfl (jX11_hangs_l88 X l rec34 hr34 x1 0 w3)
    · exact q_sub [0, 1] rfl (jX11_hangs_n212 X l rec34 hr34 x1 w)
set_option maxHeartbeats 4000000 in
set_option maxRecDepth 100000 in
theorem jX11_hangs_l34 (X : q_X) (l : Launch) : ∀ x1 w, q_J X S_R l mX11_hangs 2 q_tV 34 [(0, .ref 0), (1, .int x1)] [] w (fX11_hangs_l34 x1 w) := by
  exact q_it_ind (fun rc => ∀ x1 w, q_J X S_R l mX11_hangs 2 q_tV 34 [(0, .ref 0), (1, .int x1)] [] w (rc x1 w)) _ _ (fun _ _ => q_none) (fun rc hrc => jX11_hangs_h34 X l rc hrc) q_N
def fX11_hangs_h12 (rec12 : Int32 → q_W → Option (Unit × q_W)) (x1 : Int32) (w : q_W) : Option (Unit × q_W) :=
  if 256 ≤ x1 then
    fX11_hangs_l34 0 w
  else
    if q_inb x1 256 then
    q_lt (q_sI w 33 (q_ix x1) (vp_nar .boolean 0)) fun w1 =>
    q_lt (x1 + 1) fun y2 =>
    rec12 y2 w1
    else none
def fX11_hangs_l12 : Int32 → q_W → Option (Unit × q_W) := q_it q_N (fX11_hangs_h12) (fun _ _ => none)
set_option maxHeartbeats 4000000 in
set_option maxRecDepth 100000 in
theorem jX11_hangs_h12 (X : q_X) (l : Launch) (rec12 : Int32 → q_W → Option (Unit × q_W)) (hr12 : ∀ x1 w, q_J X S_R l mX11_hangs 2 q_tV 12 [(0, .ref 0), (1, .int x1)] [] w (rec12 x1 w)) : ∀ x1 w, q_J X S_R l mX11_hangs 2 q_tV 12 [(0, .ref 0), (1, .int x1)] [] w (fX11_hangs_h12 rec12 x1 w) := by
  intro x1 w
  refine q_iload_n 1 eX11_hangs_12 rfl rfl ?_
  refine q_sipush eX11_hangs_13 ksipush_256 ?_
  refine q_icmp_ge (tgt := 32) eX11_hangs_16 (by decide) (fun _ => ?_) (fun _ => ?_)
  · refine q_iconst eX11_hangs_32 kiconst_0 ?_
    refine q_istore_n (lv' := [(1, .int 0), (0, .ref 0)]) eX11_hangs_33 rfl (by decide) rfl ?_
    exact q_sub [1, 0] rfl (jX11_hangs_l34 X l 0 w)
  · refine q_aload_n 0 eX11_hangs_19 rfl rfl ?_
    refine q_getG (v := 33) eX11_hangs_20 fl_11_118 tR_0 rfl gR_0_66 ?_
    refine q_iload_n 1 eX11_hangs_23 rfl rfl ?_
    refine q_iconst eX11_hangs_24 kiconst_0 ?_
    refine q_zast eX11_hangs_25 tR_33 nR_33 ?_
    refine q_ltW (fun w1 => ?_)
    refine q_ltE (fun y2 hy2 => ?_)
    refine q_iinc (v := y2) (lv' := [(1, .int y2), (0, .ref 0)]) 1 eX11_hangs_26 rfl hy2 (by decide) rfl ?_
    refine q_goto (tgt := 12) eX11_hangs_29 (by decide) ?_
    exact q_sub [1, 0] rfl (hr12 y2 w1)
set_option maxHeartbeats 4000000 in
set_option maxRecDepth 100000 in
theorem jX11_hangs_l12 (X : q_X) (l : Launch) : ∀ x1 w, q_J X S_R l mX11_hangs 2 q_tV 12 [(0, .ref 0), (1, .int x1)] [] w (fX11_hangs_l12 x1 w) := by
  exact q_it_ind (fun rc => ∀ x1 w, q_J X S_R l mX11_hangs 2 q_tV 12 [(0, .ref 0), (1, .int x1)] [] w (rc x1 w)) _ _ (fun _ _ => q_none) (fun rc hrc => jX11_hangs_h12 X l rc hrc) q_N
def fX11_hangs (w : q_W) : Option (Unit × q_W) :=
  q_lt (q_sI w 0 64 0) fun w1 =>
  q_lt (q_sI w1 0 65 0) fun w2 =>
  fX11_hangs_l12 0 w2
set_option maxHeartbeats 4000000 in
set_option maxRecDepth 100000 in
theorem kX11_hangs (X : q_X) (l : Launch) (w : q_W) : q_Ct X S_R l mX11_hangs 2 q_tV [.ref 0] w (fX11_hangs w) := by
  refine q_intro (lv := [(0, .ref 0)]) (by decide +kernel) rfl (Nat.le_of_ble_eq_true rfl) rfl ?_
  refine q_aload_n 0 eX11_hangs_0 rfl rfl ?_
  refine q_iconst eX11_hangs_1 kiconst_0 ?_
  refine q_putI eX11_hangs_2 fp_11_409 tR_0 rfl ⟨rfl, rfl⟩ ?_
  refine q_ltW (fun w1 => ?_)
  refine q_aload_n 0 eX11_hangs_5 rfl rfl ?_
  refine q_iconst eX11_hangs_6 kiconst_0 ?_
  refine q_putI eX11_hangs_7 fp_11_412 tR_0 rfl ⟨rfl, rfl⟩ ?_
  refine q_ltW (fun w2 => ?_)
  refine q_iconst eX11_hangs_10 kiconst_0 ?_
  refine q_istore_n (lv' := [(1, .int 0), (0, .ref 0)]) eX11_hangs_11 rfl (by decide) rfl ?_
  exact q_sub [1, 0] rfl (jX11_hangs_l12 X l 0 w2)
def fX11_pieces (a1 : Int32) (a2 : Int32) (w : q_W) : Option (Int32 × q_W) :=
  q_b (fX11_isSheet a1 a2 0 w) fun r1 w2 =>
  if r1 = 0 then
    some ((-1), w2)
  else
    q_b (fX11_hangs w2) fun r3 w4 =>
    some ((w4.1 0 64), w4)
set_option maxHeartbeats 4000000 in
set_option maxRecDepth 100000 in
theorem kX11_pieces (X : q_X) (l : Launch) (a1 : Int32) (a2 : Int32) (w : q_W) : q_Ct X S_R l mX11_pieces 7 q_tI [.ref 0, .int a1, .int a2] w (fX11_pieces a1 a2 w) := by
  refine q_intro (lv := [(0, .ref 0), (1, .int a1), (2, .int a2)]) (by decide +kernel) rfl (Nat.le_of_ble_eq_true rfl) rfl ?_
  refine q_aload_n 0 eX11_pieces_0 rfl rfl ?_
  refine q_iload_n 1 eX11_pieces_1 rfl rfl ?_
  refine q_iload_n 2 eX11_pieces_2 rfl rfl ?_
  refine q_iconst eX11_pieces_3 kiconst_0 ?_
  refine q_callVI (As := [.int a1, .int a2, .int 0]) (st := []) eX11_pieces_4 cv_11_403 (kX11_isSheet X l a1 a2 0 w) tR_0 rfl (by decide) rfl rfl (Nat.le_of_ble_eq_true rfl) (by decide) (fun r1 w2 => ?_)
  refine q_if_ne (tgt := 12) eX11_pieces_7 (by decide) (fun _ => ?_) (fun _ => ?_)
  · refine q_iconst eX11_pieces_10 kiconst_m1 ?_
    exact q_ireturn eX11_pieces_11 rfl
  · refine q_aload_n 0 eX11_pieces_12 rfl rfl ?_
    refine q_callVV (As := []) (st := []) eX11_pieces_13 cv_11_418 (kX11_hangs X l w2) tR_0 rfl (by decide) rfl rfl (Nat.le_of_ble_eq_true rfl) (by decide) (fun r3 w4 => ?_)
    refine q_aload_n 0 eX11_pieces_16 rfl rfl ?_
    refine q_getI eX11_pieces_17 fl_11_409 tR_0 rfl ?_
    exact q_ireturn eX11_pieces_20 rfl
def fX11_largest (a1 : Int32) (a2 : Int32) (w : q_W) : Option (Int32 × q_W) :=
  q_b (fX11_isSheet a1 a2 0 w) fun r1 w2 =>
  if r1 = 0 then
    some ((-1), w2)
  else
    q_b (fX11_hangs w2) fun r3 w4 =>
    some ((w4.1 0 65), w4)
set_option maxHeartbeats 4000000 in
set_option maxRecDepth 100000 in
theorem kX11_largest (X : q_X) (l : Launch) (a1 : Int32) (a2 : Int32) (w : q_W) : q_Ct X S_R l mX11_largest 7 q_tI [.ref 0, .int a1, .int a2] w (fX11_largest a1 a2 w) := by
  refine q_intro (lv := [(0, .ref 0), (1, .int a1), (2, .int a2)]) (by decide +kernel) rfl (Nat.le_of_ble_eq_true rfl) rfl ?_
  refine q_aload_n 0 eX11_largest_0 rfl rfl ?_
  refine q_iload_n 1 eX11_largest_1 rfl rfl ?_
  refine q_iload_n 2 eX11_largest_2 rfl rfl ?_
  refine q_iconst eX11_largest_3 kiconst_0 ?_
  refine q_callVI (As := [.int a1, .int a2, .int 0]) (st := []) eX11_largest_4 cv_11_403 (kX11_isSheet X l a1 a2 0 w) tR_0 rfl (by decide) rfl rfl (Nat.le_of_ble_eq_true rfl) (by decide) (fun r1 w2 => ?_)
  refine q_if_ne (tgt := 12) eX11_largest_7 (by decide) (fun _ => ?_) (fun _ => ?_)
  · refine q_iconst eX11_largest_10 kiconst_m1 ?_
    exact q_ireturn eX11_largest_11 rfl
  · refine q_aload_n 0 eX11_largest_12 rfl rfl ?_
    refine q_callVV (As := []) (st := []) eX11_largest_13 cv_11_418 (kX11_hangs X l w2) tR_0 rfl (by decide) rfl rfl (Nat.le_of_ble_eq_true rfl) (by decide) (fun r3 w4 => ?_)
    refine q_aload_n 0 eX11_largest_16 rfl rfl ?_
    refine q_getI eX11_largest_17 fl_11_412 tR_0 rfl ?_
    exact q_ireturn eX11_largest_20 rfl
def fX11_differs_n50 (rec4 : Int32 → Int32 → Int32 → q_W → Option (Int32 × q_W)) (x1 : Int32) (x2 : Int32) (x3 : Int32) (w : q_W) : Option (Int32 × q_W) :=
  q_lt (x3 + 1) fun y1 =>
  rec4 x1 x2 y1 w
set_option maxHeartbeats 4000000 in
set_option maxRecDepth 100000 in
theorem jX11_differs_n50 (X : q_X) (l : Launch) (rec4 : Int32 → Int32 → Int32 → q_W → Option (Int32 × q_W)) (hr4 : ∀ x1 x2 x3 w, q_J X S_R l mX11_differs 1 q_tI 4 [(0, .ref 0), (1, .int x1), (2, .int x2), (3, .int x3)] [] w (rec4 x1 x2 x3 w)) (x1 : Int32) (x2 : Int32) (x3 : Int32) (w : q_W) : q_J X S_R l mX11_differs 1 q_tI 50 [(0, .ref 0), (1, .int x1), (2, .int x2), (3, .int x3)] [] w (fX11_differs_n50 rec4 x1 x2 x3 w) := by
  refine q_ltE (fun y1 hy1 => ?_)
  refine q_iinc (v := y1) (lv' := [(3, .int y1), (0, .ref 0), (1, .int x1), (2, .int x2)]) 3 eX11_differs_50 rfl hy1 (by decide) rfl ?_
  refine q_goto (tgt := 4) eX11_differs_53 (by decide) ?_
  exact q_sub [1, 2, 3, 0] rfl (hr4 x1 x2 y1 w)
def fX11_differs_h4 (rec4 : Int32 → Int32 → Int32 → q_W → Option (Int32 × q_W)) (x1 : Int32) (x2 : Int32) (x3 : Int32) (w : q_W) : Option (Int32 × q_W) :=
  if 16 ≤ x3 then
    some (x2, w)
  else
    q_b (fX11_in (x3 + x1) 0 15 w) fun r1 w2 =>
    if r1 = 0 then
      fX11_differs_n50 rec4 x1 x2 x3 w2
    else
      q_lt (240 + x3) fun y3 =>
      if q_inb y3 512 then
      q_lt ((256 + x3) + x1) fun y4 =>
      if q_inb y4 512 then
      if (w2.1 32 (q_ix y3)) = (w2.1 32 (q_ix y4)) then
        fX11_differs_n50 rec4 x1 x2 x3 w2
      else
        q_lt (x2 + 1) fun y5 =>
        fX11_differs_n50 rec4 x1 y5 x3 w2
      else none
      else none
def fX11_differs_l4 : Int32 → Int32 → Int32 → q_W → Option (Int32 × q_W) := q_it q_N (fX11_differs_h4) (fun _ _ _ _ => none)
set_option maxHeartbeats 4000000 in
set_option maxRecDepth 100000 in
theorem jX11_differs_h4 (X : q_X) (l : Launch) (rec4 : Int32 → Int32 → Int32 → q_W → Option (Int32 × q_W)) (hr4 : ∀ x1 x2 x3 w, q_J X S_R l mX11_differs 1 q_tI 4 [(0, .ref 0), (1, .int x1), (2, .int x2), (3, .int x3)] [] w (rec4 x1 x2 x3 w)) : ∀ x1 x2 x3 w, q_J X S_R l mX11_differs 1 q_tI 4 [(0, .ref 0), (1, .int x1), (2, .int x2), (3, .int x3)] [] w (fX11_differs_h4 rec4 x1 x2 x3 w) := by
  intro x1 x2 x3 w
  refine q_iload_n 3 eX11_differs_4 rfl rfl ?_
  refine q_bipush eX11_differs_5 kbipush_16 ?_
  refine q_icmp_ge (tgt := 56) eX11_differs_7 (by decide) (fun _ => ?_) (fun _ => ?_)
  · refine q_iload_n 2 eX11_differs_56 rfl rfl ?_
    exact q_ireturn eX11_differs_57 rfl
  · refine q_iload_n 3 eX11_differs_10 rfl rfl ?_
    refine q_iload_n 1 eX11_differs_11 rfl rfl ?_
    refine q_iadd eX11_differs_12 ?_
    refine q_iconst eX11_differs_13 kiconst_0 ?_
    refine q_bipush eX11_differs_14 kbipush_15 ?_
    refine q_callSI (As := [.int (x3 + x1), .int 0, .int 15]) (st := []) eX11_differs_16 cv_11_316 (kX11_in X l (x3 + x1) 0 15 w) rfl rfl (Nat.le_of_ble_eq_true rfl) (by decide) (fun r1 w2 => ?_)
    refine q_if_eq (tgt := 50) eX11_differs_19 (by decide) (fun _ => ?_) (fun _ => ?_)
    · exact q_sub [0, 1, 2, 3] rfl (jX11_differs_n50 X l rec4 hr4 x1 x2 x3 w2)
    · refine q_aload_n 0 eX11_differs_22 rfl rfl ?_
      refine q_getG (v := 32) eX11_differs_23 fl_11_115 tR_0 rfl gR_0_63 ?_
      refine q_sipush eX11_differs_26 ksipush_240 ?_
      refine q_iload_n 3 eX11_differs_29 rfl rfl ?_
      refine q_iadd eX11_differs_30 ?_
      refine q_ltI (fun y3 => ?_)
      refine q_iald eX11_differs_31 tR_32 nR_32 ?_
      refine q_aload_n 0 eX11_differs_32 rfl rfl ?_
      refine q_getG (v := 32) eX11_differs_33 fl_11_115 tR_0 rfl gR_0_63 ?_
      refine q_sipush eX11_differs_36 ksipush_256 ?_
      refine q_iload_n 3 eX11_differs_39 rfl rfl ?_
      refine q_iadd eX11_differs_40 ?_
      refine q_iload_n 1 eX11_differs_41 rfl rfl ?_
      refine q_iadd eX11_differs_42 ?_
      refine q_ltI (fun y4 => ?_)
      refine q_iald eX11_differs_43 tR_32 nR_32 ?_
      refine q_icmp_eq (tgt := 50) eX11_differs_44 (by decide) (fun _ => ?_) (fun _ => ?_)
      · exact q_sub [0, 1, 2, 3] rfl (jX11_differs_n50 X l rec4 hr4 x1 x2 x3 w2)
      · refine q_ltE (fun y5 hy5 => ?_)
        refine q_iinc (v := y5) (lv' := [(2, .int y5), (0, .ref 0), (1, .int x1), (3, .int x3)]) 2 eX11_differs_47 rfl hy5 (by decide) rfl ?_
        exact q_sub [1, 2, 0, 3] rfl (jX11_differs_n50 X l rec4 hr4 x1 y5 x3 w2)
set_option maxHeartbeats 4000000 in
set_option maxRecDepth 100000 in
theorem jX11_differs_l4 (X : q_X) (l : Launch) : ∀ x1 x2 x3 w, q_J X S_R l mX11_differs 1 q_tI 4 [(0, .ref 0), (1, .int x1), (2, .int x2), (3, .int x3)] [] w (fX11_differs_l4 x1 x2 x3 w) := by
  exact q_it_ind (fun rc => ∀ x1 x2 x3 w, q_J X S_R l mX11_differs 1 q_tI 4 [(0, .ref 0), (1, .int x1), (2, .int x2), (3, .int x3)] [] w (rc x1 x2 x3 w)) _ _ (fun _ _ _ _ => q_none) (fun rc hrc => jX11_differs_h4 X l rc hrc) q_N
def fX11_differs (a1 : Int32) (w : q_W) : Option (Int32 × q_W) :=
  fX11_differs_l4 a1 0 0 w
set_option maxHeartbeats 4000000 in
set_option maxRecDepth 100000 in
theorem kX11_differs (X : q_X) (l : Launch) (a1 : Int32) (w : q_W) : q_Ct X S_R l mX11_differs 1 q_tI [.ref 0, .int a1] w (fX11_differs a1 w) := by
  refine q_intro (lv := [(0, .ref 0), (1, .int a1)]) (by decide +kernel) rfl (Nat.le_of_ble_eq_true rfl) rfl ?_
  refine q_iconst eX11_differs_0 kiconst_0 ?_
  refine q_istore_n (lv' := [(2, .int 0), (0, .ref 0), (1, .int a1)]) eX11_differs_1 rfl (by decide) rfl ?_
  refine q_iconst eX11_differs_2 kiconst_0 ?_
  refine q_istore_n (lv' := [(3, .int 0), (2, .int 0), (0, .ref 0), (1, .int a1)]) eX11_differs_3 rfl (by decide) rfl ?_
  exact q_sub [2, 3, 1, 0] rfl (jX11_differs_l4 X l a1 0 0 w)
def fX11_edge (a1 : Int32) (a2 : Int32) (a3 : Int32) (a4 : Int32) (w : q_W) : Option (Int32 × q_W) :=
  q_b (fX11_in a3 (-15) 15 w) fun r1 w2 =>
  if r1 = 0 then
    some ((-1), w2)
  else
    q_b (fX11_isSheet a1 a4 0 w2) fun r3 w4 =>
    if r3 = 0 then
      some ((-1), w4)
    else
      q_b (fX11_isSheet a2 a4 1 w4) fun r5 w6 =>
      if r5 = 0 then
        some ((-1), w6)
      else
        q_b (fX11_differs a3 w6) fun r7 w8 =>
        some (r7, w8)
set_option maxHeartbeats 4000000 in
set_option maxRecDepth 100000 in
theorem kX11_edge (X : q_X) (l : Launch) (a1 : Int32) (a2 : Int32) (a3 : Int32) (a4 : Int32) (w : q_W) : q_Ct X S_R l mX11_edge 7 q_tI [.ref 0, .int a1, .int a2, .int a3, .int a4] w (fX11_edge a1 a2 a3 a4 w) := by
  refine q_intro (lv := [(0, .ref 0), (1, .int a1), (2, .int a2), (3, .int a3), (4, .int a4)]) (by decide +kernel) rfl (Nat.le_of_ble_eq_true rfl) rfl ?_
  refine q_iload_n 3 eX11_edge_0 rfl rfl ?_
  refine q_bipush eX11_edge_1 kbipush_m15 ?_
  refine q_bipush eX11_edge_3 kbipush_15 ?_
  refine q_callSI (As := [.int a3, .int (-15), .int 15]) (st := []) eX11_edge_5 cv_11_316 (kX11_in X l a3 (-15) 15 w) rfl rfl (Nat.le_of_ble_eq_true rfl) (by decide) (fun r1 w2 => ?_)
  refine q_if_eq (tgt := 33) eX11_edge_8 (by decide) (fun _ => ?_) (fun _ => ?_)
  · refine q_iconst eX11_edge_33 kiconst_m1 ?_
    exact q_ireturn eX11_edge_34 rfl
  · refine q_aload_n 0 eX11_edge_11 rfl rfl ?_
    refine q_iload_n 1 eX11_edge_12 rfl rfl ?_
    refine q_iload 4 eX11_edge_13 rfl ?_
    refine q_iconst eX11_edge_15 kiconst_0 ?_
    refine q_callVI (As := [.int a1, .int a4, .int 0]) (st := []) eX11_edge_16 cv_11_403 (kX11_isSheet X l a1 a4 0 w2) tR_0 rfl (by decide) rfl rfl (Nat.le_of_ble_eq_true rfl) (by decide) (fun r3 w4 => ?_)
    refine q_if_eq (tgt := 33) eX11_edge_19 (by decide) (fun _ => ?_) (fun _ => ?_)
    · refine q_iconst eX11_edge_33 kiconst_m1 ?_
      exact q_ireturn eX11_edge_34 rfl
    · refine q_aload_n 0 eX11_edge_22 rfl rfl ?_
      refine q_iload_n 2 eX11_edge_23 rfl rfl ?_
      refine q_iload 4 eX11_edge_24 rfl ?_
      refine q_iconst eX11_edge_26 kiconst_1 ?_
      refine q_callVI (As := [.int a2, .int a4, .int 1]) (st := []) eX11_edge_27 cv_11_403 (kX11_isSheet X l a2 a4 1 w4) tR_0 rfl (by decide) rfl rfl (Nat.le_of_ble_eq_true rfl) (by decide) (fun r5 w6 => ?_)
      refine q_if_ne (tgt := 35) eX11_edge_30 (by decide) (fun _ => ?_) (fun _ => ?_)
      · refine q_iconst eX11_edge_33 kiconst_m1 ?_
        exact q_ireturn eX11_edge_34 rfl
      · refine q_aload_n 0 eX11_edge_35 rfl rfl ?_
        refine q_iload_n 3 eX11_edge_36 rfl rfl ?_
        refine q_callVI (As := [.int a3]) (st := []) eX11_edge_37 cv_11_421 (kX11_differs X l a3 w6) tR_0 rfl (by decide) rfl rfl (Nat.le_of_ble_eq_true rfl) (by decide) (fun r7 w8 => ?_)
        exact q_ireturn eX11_edge_40 rfl
def fX11_match_n111 (rec36 : Int32 → Int32 → Int32 → q_W → Option (Int32 × q_W)) (rec46 : Int32 → Int32 → Int32 → Int32 → q_W → Option (Int32 × q_W)) (x4 : Int32) (x5 : Int32) (x6 : Int32) (x7 : Int32) (w : q_W) : Option (Int32 × q_W) :=
  q_lt (x7 + 2) fun y1 =>
  rec46 x4 x5 x6 y1 w
set_option maxHeartbeats 4000000 in
set_option maxRecDepth 100000 in
theorem jX11_match_n111 (X : q_X) (l : Launch) (rec36 : Int32 → Int32 → Int32 → q_W → Option (Int32 × q_W)) (rec46 : Int32 → Int32 → Int32 → Int32 → q_W → Option (Int32 × q_W)) (hr36 : ∀ x4 x5 x6 w, q_J X S_R l mX11_match 7 q_tI 36 [(0, .ref 0), (4, .int x4), (5, .int x5), (6, .int x6)] [] w (rec36 x4 x5 x6 w)) (hr46 : ∀ x4 x5 x6 x7 w, q_J X S_R l mX11_match 7 q_tI 46 [(0, .ref 0), (4, .int x4), (5, .int x5), (6, .int x6), (7, .int x7)] [] w (rec46 x4 x5 x6 x7 w)) (x4 : Int32) (x5 : Int32) (x6 : Int32) (x7 : Int32) (w : q_W) : q_J X S_R l mX11_match 7 q_tI 111 [(0, .ref 0), (4, .int x4), (5, .int x5), (6, .int x6), (7, .int x7)] [] w (fX11_match_n111 rec36 rec46 x4 x5 x6 x7 w) := by
  refine q_ltE (fun y1 hy1 => ?_)
  refine q_iinc (v := y1) (lv' := [(7, .int y1), (0, .ref 0), (4, .int x4), (5, .int x5), (6, .int x6)]) 4 eX11_match_111 rfl hy1 (by decide) rfl ?_
  refine q_goto (tgt := 46) eX11_match_114 (by decide) ?_
  exact q_sub [1, 2, 3, 4, 0] rfl (hr46 x4 x5 x6 y1 w)
def fX11_match_n78 (rec36 : Int32 → Int32 → Int32 → q_W → Option (Int32 × q_W)) (rec46 : Int32 → Int32 → Int32 → Int32 → q_W → Option (Int32 × q_W)) (x4 : Int32) (x5 : Int32) (x6 : Int32) (x7 : Int32) (x8 : Int32) (s0 : Int32) (s1 : Int32) (w : q_W) : Option (Int32 × q_W) :=
  q_lt (s1 - s0) fun y1 =>
  if (x8 * y1) < (x5 * (16 - x6)) then
    q_lt (x7 * x6) fun y2 =>
    fX11_match_n111 rec36 rec46 y2 x8 x6 x7 w
  else
    fX11_match_n111 rec36 rec46 x4 x5 x6 x7 w
set_option maxHeartbeats 4000000 in
set_option maxRecDepth 100000 in
theorem jX11_match_n78 (X : q_X) (l : Launch) (rec36 : Int32 → Int32 → Int32 → q_W → Option (Int32 × q_W)) (rec46 : Int32 → Int32 → Int32 → Int32 → q_W → Option (Int32 × q_W)) (hr36 : ∀ x4 x5 x6 w, q_J X S_R l mX11_match 7 q_tI 36 [(0, .ref 0), (4, .int x4), (5, .int x5), (6, .int x6)] [] w (rec36 x4 x5 x6 w)) (hr46 : ∀ x4 x5 x6 x7 w, q_J X S_R l mX11_match 7 q_tI 46 [(0, .ref 0), (4, .int x4), (5, .int x5), (6, .int x6), (7, .int x7)] [] w (rec46 x4 x5 x6 x7 w)) (x4 : Int32) (x5 : Int32) (x6 : Int32) (x7 : Int32) (x8 : Int32) (s0 : Int32) (s1 : Int32) (w : q_W) : q_J X S_R l mX11_match 7 q_tI 78 [(0, .ref 0), (4, .int x4), (5, .int x5), (6, .int x6), (7, .int x7), (8, .int x8)] [.int s0, .int s1] w (fX11_match_n78 rec36 rec46 x4 x5 x6 x7 x8 s0 s1 w) := by
  refine q_isub eX11_match_78 ?_
  refine q_ltI (fun y1 => ?_)
  refine q_istore (lv' := [(9, .int y1), (0, .ref 0), (4, .int x4), (5, .int x5), (6, .int x6), (7, .int x7), (8, .int x8)]) eX11_match_79 (by decide) rfl ?_
  refine q_iload 6 eX11_match_81 rfl ?_
  refine q_iload 0 eX11_match_83 rfl ?_
  refine q_imul eX11_match_85 ?_
  refine q_iload 3 eX11_match_86 rfl ?_
  refine q_bipush eX11_match_88 kbipush_16 ?_
  refine q_iload 4 eX11_match_90 rfl ?_
  refine q_isub eX11_match_92 ?_
  refine q_imul eX11_match_93 ?_
  refine q_icmp_lt (tgt := 100) eX11_match_94 (by decide) (fun _ => ?_) (fun _ => ?_)
  · refine q_iload 5 eX11_match_100 rfl ?_
    refine q_iload 4 eX11_match_102 rfl ?_
    refine q_imul eX11_match_104 ?_
    refine q_ltI (fun y2 => ?_)
    refine q_istore (lv' := [(4, .int y2), (9, .int y1), (0, .ref 0), (5, .int x5), (6, .int x6), (7, .int x7), (8, .int x8)]) eX11_match_105 (by decide) rfl ?_
    refine q_iload 6 eX11_match_107 rfl ?_
    refine q_istore (lv' := [(5, .int x8), (4, .int y2), (9, .int y1), (0, .ref 0), (6, .int x6), (7, .int x7), (8, .int x8)]) eX11_match_109 (by decide) rfl ?_
    exact q_sub [3, 1, 0, 4, 5] rfl (jX11_match_n111 X l rec36 rec46 hr36 hr46 y2 x8 x6 x7 w)
  · refine q_goto (tgt := 111) eX11_match_97 (by decide) ?_
    exact q_sub [1, 2, 3, 4, 5] rfl (jX11_match_n111 X l rec36 rec46 hr36 hr46 x4 x5 x6 x7 w)
def fX11_match_h46 (rec36 : Int32 → Int32 → Int32 → q_W → Option (Int32 × q_W)) (rec46 : Int32 → Int32 → Int32 → Int32 → q_W → Option (Int32 × q_W)) (x4 : Int32) (x5 : Int32) (x6 : Int32) (x7 : Int32) (w : q_W) : Option (Int32 × q_W) :=
  if 2 ≤ x7 then
    q_lt (x6 + 1) fun y1 =>
    rec36 x4 x5 y1 w
  else
    q_b (fX11_differs (x7 * x6) w) fun r2 w3 =>
    if 0 ≤ x4 then
      fX11_match_n78 rec36 rec46 x4 x5 x6 x7 r2 x4 16 w3
    else
      fX11_match_n78 rec36 rec46 x4 x5 x6 x7 r2 (0 - x4) 16 w3
def fX11_match_l46 (rec36 : Int32 → Int32 → Int32 → q_W → Option (Int32 × q_W)) : Int32 → Int32 → Int32 → Int32 → q_W → Option (Int32 × q_W) := q_it q_N (fX11_match_h46 rec36) (fun _ _ _ _ _ => none)
set_option maxHeartbeats 4000000 in
set_option maxRecDepth 100000 in
theorem jX11_match_h46 (X : q_X) (l : Launch) (rec36 : Int32 → Int32 → Int32 → q_W → Option (Int32 × q_W)) (hr36 : ∀ x4 x5 x6 w, q_J X S_R l mX11_match 7 q_tI 36 [(0, .ref 0), (4, .int x4), (5, .int x5), (6, .int x6)] [] w (rec36 x4 x5 x6 w)) (rec46 : Int32 → Int32 → Int32 → Int32 → q_W → Option (Int32 × q_W)) (hr46 : ∀ x4 x5 x6 x7 w, q_J X S_R l mX11_match 7 q_tI 46 [(0, .ref 0), (4, .int x4), (5, .int x5), (6, .int x6), (7, .int x7)] [] w (rec46 x4 x5 x6 x7 w)) : ∀ x4 x5 x6 x7 w, q_J X S_R l mX11_match 7 q_tI 46 [(0, .ref 0), (4, .int x4), (5, .int x5), (6, .int x6), (7, .int x7)] [] w (fX11_match_h46 rec36 rec46 x4 x5 x6 x7 w) := by
  intro x4 x5 x6 x7 w
  refine q_iload 4 eX11_match_46 rfl ?_
  refine q_iconst eX11_match_48 kiconst_2 ?_
  refine q_icmp_ge (tgt := 117) eX11_match_49 (by decide) (fun _ => ?_) (fun _ => ?_)
  · refine q_ltE (fun y1 hy1 => ?_)
    refine q_iinc (v := y1) (lv' := [(6, .int y1), (0, .ref 0), (4, .int x4), (5, .int x5), (7, .int x7)]) 3 eX11_match_117 rfl hy1 (by decide) rfl ?_
    refine q_goto (tgt := 36) eX11_match_120 (by decide) ?_
    exact q_sub [1, 2, 3, 0] rfl (hr36 x4 x5 y1 w)
  · refine q_aload_n 0 eX11_match_52 rfl rfl ?_
    refine q_iload 4 eX11_match_53 rfl ?_
    refine q_iload 3 eX11_match_55 rfl ?_
    refine q_imul eX11_match_57 ?_
    refine q_callVI (As := [.int (x7 * x6)]) (st := []) eX11_match_58 cv_11_421 (kX11_differs X l (x7 * x6) w) tR_0 rfl (by decide) rfl rfl (Nat.le_of_ble_eq_true rfl) (by decide) (fun r2 w3 => ?_)
    refine q_istore (lv' := [(8, .int r2), (0, .ref 0), (4, .int x4), (5, .int x5), (6, .int x6), (7, .int x7)]) eX11_match_61 (by decide) rfl ?_
    refine q_bipush eX11_match_63 kbipush_16 ?_
    refine q_iload 2 eX11_match_65 rfl ?_
    refine q_if_ge (tgt := 76) eX11_match_67 (by decide) (fun _ => ?_) (fun _ => ?_)
    · refine q_iload 2 eX11_match_76 rfl ?_
      exact q_sub [1, 2, 3, 4, 5, 0] rfl (jX11_match_n78 X l rec36 rec46 hr36 hr46 x4 x5 x6 x7 r2 x4 16 w3)
    · refine q_iload 2 eX11_match_70 rfl ?_
      refine q_ineg eX11_match_72 ?_
      refine q_goto (tgt := 78) eX11_match_73 (by decide) ?_
      exact q_sub [1, 2, 3, 4, 5, 0] rfl (jX11_match_n78 X l rec36 rec46 hr36 hr46 x4 x5 x6 x7 r2 (0 - x4) 16 w3)
set_option maxHeartbeats 4000000 in
set_option maxRecDepth 100000 in
theorem jX11_match_l46 (X : q_X) (l : Launch) (rec36 : Int32 → Int32 → Int32 → q_W → Option (Int32 × q_W)) (hr36 : ∀ x4 x5 x6 w, q_J X S_R l mX11_match 7 q_tI 36 [(0, .ref 0), (4, .int x4), (5, .int x5), (6, .int x6)] [] w (rec36 x4 x5 x6 w)) : ∀ x4 x5 x6 x7 w, q_J X S_R l mX11_match 7 q_tI 46 [(0, .ref 0), (4, .int x4), (5, .int x5), (6, .int x6), (7, .int x7)] [] w (fX11_match_l46 rec36 x4 x5 x6 x7 w) := by
  exact q_it_ind (fun rc => ∀ x4 x5 x6 x7 w, q_J X S_R l mX11_match 7 q_tI 46 [(0, .ref 0), (4, .int x4), (5, .int x5), (6, .int x6), (7, .int x7)] [] w (rc x4 x5 x6 x7 w)) _ _ (fun _ _ _ _ _ => q_none) (fun rc hrc => jX11_match_h46 X l rec36 hr36 rc hrc) q_N
def fX11_match_h36 (rec36 : Int32 → Int32 → Int32 → q_W → Option (Int32 × q_W)) (x4 : Int32) (x5 : Int32) (x6 : Int32) (w : q_W) : Option (Int32 × q_W) :=
  if 16 ≤ x6 then
    some (x4, w)
  else
    fX11_match_l46 rec36 x4 x5 x6 (-1) w
def fX11_match_l36 : Int32 → Int32 → Int32 → q_W → Option (Int32 × q_W) := q_it q_N (fX11_match_h36) (fun _ _ _ _ => none)
set_option maxHeartbeats 4000000 in
set_option maxRecDepth 100000 in
theorem jX11_match_h36 (X : q_X) (l : Launch) (rec36 : Int32 → Int32 → Int32 → q_W → Option (Int32 × q_W)) (hr36 : ∀ x4 x5 x6 w, q_J X S_R l mX11_match 7 q_tI 36 [(0, .ref 0), (4, .int x4), (5, .int x5), (6, .int x6)] [] w (rec36 x4 x5 x6 w)) : ∀ x4 x5 x6 w, q_J X S_R l mX11_match 7 q_tI 36 [(0, .ref 0), (4, .int x4), (5, .int x5), (6, .int x6)] [] w (fX11_match_h36 rec36 x4 x5 x6 w) := by
  intro x4 x5 x6 w
  refine q_iload 3 eX11_match_36 rfl ?_
  refine q_bipush eX11_match_38 kbipush_16 ?_
  refine q_icmp_ge (tgt := 123) eX11_match_40 (by decide) (fun _ => ?_) (fun _ => ?_)
  · refine q_iload 1 eX11_match_123 rfl ?_
    exact q_ireturn eX11_match_125 rfl
  · refine q_iconst eX11_match_43 kiconst_m1 ?_
    refine q_istore (lv' := [(7, .int (-1)), (0, .ref 0), (4, .int x4), (5, .int x5), (6, .int x6)]) eX11_match_44 (by decide) rfl ?_
    exact q_sub [1, 2, 3, 4, 0] rfl (jX11_match_l46 X l rec36 hr36 x4 x5 x6 (-1) w)
set_option maxHeartbeats 4000000 in
set_option maxRecDepth 100000 in
theorem jX11_match_l36 (X : q_X) (l : Launch) : ∀ x4 x5 x6 w, q_J X S_R l mX11_match 7 q_tI 36 [(0, .ref 0), (4, .int x4), (5, .int x5), (6, .int x6)] [] w (fX11_match_l36 x4 x5 x6 w) := by
  exact q_it_ind (fun rc => ∀ x4 x5 x6 w, q_J X S_R l mX11_match 7 q_tI 36 [(0, .ref 0), (4, .int x4), (5, .int x5), (6, .int x6)] [] w (rc x4 x5 x6 w)) _ _ (fun _ _ _ _ => q_none) (fun rc hrc => jX11_match_h36 X l rc hrc) q_N
def fX11_match (a1 : Int32) (a2 : Int32) (a3 : Int32) (w : q_W) : Option (Int32 × q_W) :=
  q_b (fX11_isSheet a1 a3 0 w) fun r1 w2 =>
  if r1 = 0 then
    some ((-100), w2)
  else
    q_b (fX11_isSheet a2 a3 1 w2) fun r3 w4 =>
    if r3 = 0 then
      some ((-100), w4)
    else
      q_b (fX11_differs 0 w4) fun r5 w6 =>
      fX11_match_l36 0 r5 1 w6
set_option maxHeartbeats 4000000 in
set_option maxRecDepth 100000 in
theorem kX11_match (X : q_X) (l : Launch) (a1 : Int32) (a2 : Int32) (a3 : Int32) (w : q_W) : q_Ct X S_R l mX11_match 7 q_tI [.ref 0, .int a1, .int a2, .int a3] w (fX11_match a1 a2 a3 w) := by
  refine q_intro (lv := [(0, .ref 0), (1, .int a1), (2, .int a2), (3, .int a3)]) (by decide +kernel) rfl (Nat.le_of_ble_eq_true rfl) rfl ?_
  refine q_aload_n 0 eX11_match_0 rfl rfl ?_
  refine q_iload_n 1 eX11_match_1 rfl rfl ?_
  refine q_iload_n 3 eX11_match_2 rfl rfl ?_
  refine q_iconst eX11_match_3 kiconst_0 ?_
  refine q_callVI (As := [.int a1, .int a3, .int 0]) (st := []) eX11_match_4 cv_11_403 (kX11_isSheet X l a1 a3 0 w) tR_0 rfl (by decide) rfl rfl (Nat.le_of_ble_eq_true rfl) (by decide) (fun r1 w2 => ?_)
  refine q_if_eq (tgt := 20) eX11_match_7 (by decide) (fun _ => ?_) (fun _ => ?_)
  · refine q_bipush eX11_match_20 kbipush_m100 ?_
    exact q_ireturn eX11_match_22 rfl
  · refine q_aload_n 0 eX11_match_10 rfl rfl ?_
    refine q_iload_n 2 eX11_match_11 rfl rfl ?_
    refine q_iload_n 3 eX11_match_12 rfl rfl ?_
    refine q_iconst eX11_match_13 kiconst_1 ?_
    refine q_callVI (As := [.int a2, .int a3, .int 1]) (st := []) eX11_match_14 cv_11_403 (kX11_isSheet X l a2 a3 1 w2) tR_0 rfl (by decide) rfl rfl (Nat.le_of_ble_eq_true rfl) (by decide) (fun r3 w4 => ?_)
    refine q_if_ne (tgt := 23) eX11_match_17 (by decide) (fun _ => ?_) (fun _ => ?_)
    · refine q_bipush eX11_match_20 kbipush_m100 ?_
      exact q_ireturn eX11_match_22 rfl
    · refine q_iconst eX11_match_23 kiconst_0 ?_
      refine q_istore (lv' := [(4, .int 0), (0, .ref 0), (1, .int a1), (2, .int a2), (3, .int a3)]) eX11_match_24 (by decide) rfl ?_
      refine q_aload_n 1 eX11_match_26 rfl rfl ?_
      refine q_iconst eX11_match_27 kiconst_0 ?_
      refine q_callVI (As := [.int 0]) (st := []) eX11_match_28 cv_11_421 (kX11_differs X l 0 w4) tR_0 rfl (by decide) rfl rfl (Nat.le_of_ble_eq_true rfl) (by decide) (fun r5 w6 => ?_)
      refine q_istore (lv' := [(5, .int r5), (4, .int 0), (0, .ref 0), (1, .int a1), (2, .int a2), (3, .int a3)]) eX11_match_31 (by decide) rfl ?_
      refine q_iconst eX11_match_33 kiconst_1 ?_
      refine q_istore (lv' := [(6, .int 1), (5, .int r5), (4, .int 0), (0, .ref 0), (1, .int a1), (2, .int a2), (3, .int a3)]) eX11_match_34 (by decide) rfl ?_
      exact q_sub [3, 2, 1, 0] rfl (jX11_match_l36 X l 0 r5 1 w6)
def fX11_unlikes_n33 (rec4 : Int32 → Int32 → q_W → Option (Int32 × q_W)) (x1 : Int32) (x2 : Int32) (w : q_W) : Option (Int32 × q_W) :=
  q_lt (x2 + 1) fun y1 =>
  rec4 x1 y1 w
set_option maxHeartbeats 4000000 in
set_option maxRecDepth 100000 in
theorem jX11_unlikes_n33 (X : q_X) (l : Launch) (rec4 : Int32 → Int32 → q_W → Option (Int32 × q_W)) (hr4 : ∀ x1 x2 w, q_J X S_R l mX11_unlikes 0 q_tI 4 [(0, .ref 0), (1, .int x1), (2, .int x2)] [] w (rec4 x1 x2 w)) (x1 : Int32) (x2 : Int32) (w : q_W) : q_J X S_R l mX11_unlikes 0 q_tI 33 [(0, .ref 0), (1, .int x1), (2, .int x2)] [] w (fX11_unlikes_n33 rec4 x1 x2 w) := by
  refine q_ltE (fun y1 hy1 => ?_)
  refine q_iinc (v := y1) (lv' := [(2, .int y1), (0, .ref 0), (1, .int x1)]) 2 eX11_unlikes_33 rfl hy1 (by decide) rfl ?_
  refine q_goto (tgt := 4) eX11_unlikes_36 (by decide) ?_
  exact q_sub [1, 2, 0] rfl (hr4 x1 y1 w)
def fX11_unlikes_h4 (rec4 : Int32 → Int32 → q_W → Option (Int32 × q_W)) (x1 : Int32) (x2 : Int32) (w : q_W) : Option (Int32 × q_W) :=
  if 256 ≤ x2 then
    some (x1, w)
  else
    if q_inb x2 512 then
    q_lt (256 + x2) fun y1 =>
    if q_inb y1 512 then
    if (w.1 32 (q_ix x2)) = (w.1 32 (q_ix y1)) then
      fX11_unlikes_n33 rec4 x1 x2 w
    else
      q_lt (x1 + 1) fun y2 =>
      fX11_unlikes_n33 rec4 y2 x2 w
    else none
    else none
def fX11_unlikes_l4 : Int32 → Int32 → q_W → Option (Int32 × q_W) := q_it q_N (fX11_unlikes_h4) (fun _ _ _ => none)
set_option maxHeartbeats 4000000 in
set_option maxRecDepth 100000 in
theorem jX11_unlikes_h4 (X : q_X) (l : Launch) (rec4 : Int32 → Int32 → q_W → Option (Int32 × q_W)) (hr4 : ∀ x1 x2 w, q_J X S_R l mX11_unlikes 0 q_tI 4 [(0, .ref 0), (1, .int x1), (2, .int x2)] [] w (rec4 x1 x2 w)) : ∀ x1 x2 w, q_J X S_R l mX11_unlikes 0 q_tI 4 [(0, .ref 0), (1, .int x1), (2, .int x2)] [] w (fX11_unlikes_h4 rec4 x1 x2 w) := by
  intro x1 x2 w
  refine q_iload_n 2 eX11_unlikes_4 rfl rfl ?_
  refine q_sipush eX11_unlikes_5 ksipush_256 ?_
  refine q_icmp_ge (tgt := 39) eX11_unlikes_8 (by decide) (fun _ => ?_) (fun _ => ?_)
  · refine q_iload_n 1 eX11_unlikes_39 rfl rfl ?_
    exact q_ireturn eX11_unlikes_40 rfl
  · refine q_aload_n 0 eX11_unlikes_11 rfl rfl ?_
    refine q_getG (v := 32) eX11_unlikes_12 fl_11_115 tR_0 rfl gR_0_63 ?_
    refine q_iload_n 2 eX11_unlikes_15 rfl rfl ?_
    refine q_iald eX11_unlikes_16 tR_32 nR_32 ?_
    refine q_aload_n 0 eX11_unlikes_17 rfl rfl ?_
    refine q_getG (v := 32) eX11_unlikes_18 fl_11_115 tR_0 rfl gR_0_63 ?_
    refine q_sipush eX11_unlikes_21 ksipush_256 ?_
    refine q_iload_n 2 eX11_unlikes_24 rfl rfl ?_
    refine q_iadd eX11_unlikes_25 ?_
    refine q_ltI (fun y1 => ?_)
    refine q_iald eX11_unlikes_26 tR_32 nR_32 ?_
    refine q_icmp_eq (tgt := 33) eX11_unlikes_27 (by decide) (fun _ => ?_) (fun _ => ?_)
    · exact q_sub [0, 1, 2] rfl (jX11_unlikes_n33 X l rec4 hr4 x1 x2 w)
    · refine q_ltE (fun y2 hy2 => ?_)
      refine q_iinc (v := y2) (lv' := [(1, .int y2), (0, .ref 0), (2, .int x2)]) 1 eX11_unlikes_30 rfl hy2 (by decide) rfl ?_
      exact q_sub [1, 0, 2] rfl (jX11_unlikes_n33 X l rec4 hr4 y2 x2 w)
set_option maxHeartbeats 4000000 in
set_option maxRecDepth 100000 in
theorem jX11_unlikes_l4 (X : q_X) (l : Launch) : ∀ x1 x2 w, q_J X S_R l mX11_unlikes 0 q_tI 4 [(0, .ref 0), (1, .int x1), (2, .int x2)] [] w (fX11_unlikes_l4 x1 x2 w) := by
  exact q_it_ind (fun rc => ∀ x1 x2 w, q_J X S_R l mX11_unlikes 0 q_tI 4 [(0, .ref 0), (1, .int x1), (2, .int x2)] [] w (rc x1 x2 w)) _ _ (fun _ _ _ => q_none) (fun rc hrc => jX11_unlikes_h4 X l rc hrc) q_N
def fX11_unlikes (w : q_W) : Option (Int32 × q_W) :=
  fX11_unlikes_l4 0 0 w
set_option maxHeartbeats 4000000 in
set_option maxRecDepth 100000 in
theorem kX11_unlikes (X : q_X) (l : Launch) (w : q_W) : q_Ct X S_R l mX11_unlikes 0 q_tI [.ref 0] w (fX11_unlikes w) := by
  refine q_intro (lv := [(0, .ref 0)]) (by decide +kernel) rfl (Nat.le_of_ble_eq_true rfl) rfl ?_
  refine q_iconst eX11_unlikes_0 kiconst_0 ?_
  refine q_istore_n (lv' := [(1, .int 0), (0, .ref 0)]) eX11_unlikes_1 rfl (by decide) rfl ?_
  refine q_iconst eX11_unlikes_2 kiconst_0 ?_
  refine q_istore_n (lv' := [(2, .int 0), (1, .int 0), (0, .ref 0)]) eX11_unlikes_3 rfl (by decide) rfl ?_
  exact q_sub [2, 1, 0] rfl (jX11_unlikes_l4 X l 0 0 w)
def fX11_unlike (a1 : Int32) (a2 : Int32) (a3 : Int32) (w : q_W) : Option (Int32 × q_W) :=
  q_b (fX11_isSheet a1 a3 0 w) fun r1 w2 =>
  if r1 = 0 then
    some ((-1), w2)
  else
    q_b (fX11_isSheet a2 a3 1 w2) fun r3 w4 =>
    if r3 = 0 then
      some ((-1), w4)
    else
      q_b (fX11_unlikes w4) fun r5 w6 =>
      some (r5, w6)
set_option maxHeartbeats 4000000 in
set_option maxRecDepth 100000 in
theorem kX11_unlike (X : q_X) (l : Launch) (a1 : Int32) (a2 : Int32) (a3 : Int32) (w : q_W) : q_Ct X S_R l mX11_unlike 7 q_tI [.ref 0, .int a1, .int a2, .int a3] w (fX11_unlike a1 a2 a3 w) := by
  refine q_intro (lv := [(0, .ref 0), (1, .int a1), (2, .int a2), (3, .int a3)]) (by decide +kernel) rfl (Nat.le_of_ble_eq_true rfl) rfl ?_
  refine q_aload_n 0 eX11_unlike_0 rfl rfl ?_
  refine q_iload_n 1 eX11_unlike_1 rfl rfl ?_
  refine q_iload_n 3 eX11_unlike_2 rfl rfl ?_
  refine q_iconst eX11_unlike_3 kiconst_0 ?_
  refine q_callVI (As := [.int a1, .int a3, .int 0]) (st := []) eX11_unlike_4 cv_11_403 (kX11_isSheet X l a1 a3 0 w) tR_0 rfl (by decide) rfl rfl (Nat.le_of_ble_eq_true rfl) (by decide) (fun r1 w2 => ?_)
  refine q_if_eq (tgt := 20) eX11_unlike_7 (by decide) (fun _ => ?_) (fun _ => ?_)
  · refine q_iconst eX11_unlike_20 kiconst_m1 ?_
    exact q_ireturn eX11_unlike_21 rfl
  · refine q_aload_n 0 eX11_unlike_10 rfl rfl ?_
    refine q_iload_n 2 eX11_unlike_11 rfl rfl ?_
    refine q_iload_n 3 eX11_unlike_12 rfl rfl ?_
    refine q_iconst eX11_unlike_13 kiconst_1 ?_
    refine q_callVI (As := [.int a2, .int a3, .int 1]) (st := []) eX11_unlike_14 cv_11_403 (kX11_isSheet X l a2 a3 1 w2) tR_0 rfl (by decide) rfl rfl (Nat.le_of_ble_eq_true rfl) (by decide) (fun r3 w4 => ?_)
    refine q_if_ne (tgt := 22) eX11_unlike_17 (by decide) (fun _ => ?_) (fun _ => ?_)
    · refine q_iconst eX11_unlike_20 kiconst_m1 ?_
      exact q_ireturn eX11_unlike_21 rfl
    · refine q_aload_n 0 eX11_unlike_22 rfl rfl ?_
      refine q_callVI (As := []) (st := []) eX11_unlike_23 cv_11_424 (kX11_unlikes X l w4) tR_0 rfl (by decide) rfl rfl (Nat.le_of_ble_eq_true rfl) (by decide) (fun r5 w6 => ?_)
      exact q_ireturn eX11_unlike_26 rfl
def fX11_offOf_h32 (rec10 : Int32 → q_W → Option (Int32 × q_W)) (rec32 : Int32 → Int32 → q_W → Option (Int32 × q_W)) (x1 : Int32) (x2 : Int32) (w : q_W) : Option (Int32 × q_W) :=
  if 6 ≤ x2 then
    q_lt (x1 + 1) fun y1 =>
    rec10 y1 w
  else
    q_lt ((6 * x1) + x2) fun y2 =>
    if q_inb y2 720 then
    q_lt ((6 * x1) + x2) fun y3 =>
    if q_inb y3 720 then
    q_lt (q_sI w 30 (q_ix y3) (w.1 22 (q_ix y2))) fun w4 =>
    q_lt (x2 + 1) fun y5 =>
    rec32 x1 y5 w4
    else none
    else none
def fX11_offOf_l32 (rec10 : Int32 → q_W → Option (Int32 × q_W)) : Int32 → Int32 → q_W → Option (Int32 × q_W) := q_it q_N (fX11_offOf_h32 rec10) (fun _ _ _ => none)
set_option maxHeartbeats 4000000 in
set_option maxRecDepth 100000 in
theorem jX11_offOf_h32 (X : q_X) (l : Launch) (rec10 : Int32 → q_W → Option (Int32 × q_W)) (hr10 : ∀ x1 w, q_J X S_R l mX11_offOf 6 q_tI 10 [(0, .ref 0), (1, .int x1)] [] w (rec10 x1 w)) (rec32 : Int32 → Int32 → q_W → Option (Int32 × q_W)) (hr32 : ∀ x1 x2 w, q_J X S_R l mX11_offOf 6 q_tI 32 [(0, .ref 0), (1, .int x1), (2, .int x2)] [] w (rec32 x1 x2 w)) : ∀ x1 x2 w, q_J X S_R l mX11_offOf 6 q_tI 32 [(0, .ref 0), (1, .int x1), (2, .int x2)] [] w (fX11_offOf_h32 rec10 rec32 x1 x2 w) := by
  intro x1 x2 w
  refine q_iload_n 2 eX11_offOf_32 rfl rfl ?_
  refine q_bipush eX11_offOf_33 kbipush_6 ?_
  refine q_icmp_ge (tgt := 66) eX11_offOf_35 (by decide) (fun _ => ?_) (fun _ => ?_)
  · refine q_ltE (fun y1 hy1 => ?_)
    refine q_iinc (v := y1) (lv' := [(1, .int y1), (0, .ref 0), (2, .int x2)]) 1 eX11_offOf_66 rfl hy1 (by decide) rfl ?_
    refine q_goto (tgt := 10) eX11_offOf_69 (by decide) ?_
    exact q_sub [1, 0] rfl (hr10 y1 w)
  · refine q_aload_n 0 eX11_offOf_38 rfl rfl ?_
    refine q_getG (v := 30) eX11_offOf_39 fl_11_109 tR_0 rfl gR_0_58 ?_
    refine q_bipush eX11_offOf_42 kbipush_6 ?_
    refine q_iload_n 1 eX11_offOf_44 rfl rfl ?_
    refine q_imul eX11_offOf_45 ?_
    refine q_iload_n 2 eX11_offOf_46 rfl rfl ?_
    refine q_iadd eX11_offOf_47 ?_
    refine q_aload_n 0 eX11_offOf_48 rfl rfl ?_
    refine q_getG (v := 22) eX11_offOf_49 fl_11_82 tR_0 rfl gR_0_43 ?_
    refine q_bipush eX11_offOf_52 kbipush_6 ?_
    refine q_iload_n 1 eX11_offOf_54 rfl rfl ?_
    refine q_imul eX11_offOf_55 ?_
    refine q_iload_n 2 eX11_offOf_56 rfl rfl ?_
    refine q_iadd eX11_offOf_57 ?_
    refine q_ltI (fun y2 => ?_)
    refine q_iald eX11_offOf_58 tR_22 nR_22 ?_
    refine q_ltI1 (fun y3 => ?_)
    refine q_iast eX11_offOf_59 tR_30 nR_30 ?_
    refine q_ltW (fun w4 => ?_)
    refine q_ltE (fun y5 hy5 => ?_)
    refine q_iinc (v := y5) (lv' := [(2, .int y5), (0, .ref 0), (1, .int x1)]) 2 eX11_offOf_60 rfl hy5 (by decide) rfl ?_
    refine q_goto (tgt := 32) eX11_offOf_63 (by decide) ?_
    exact q_sub [1, 2, 0] rfl (hr32 x1 y5 w4)
set_option maxHeartbeats 4000000 in
set_option maxRecDepth 100000 in
theorem jX11_offOf_l32 (X : q_X) (l : Launch) (rec10 : Int32 → q_W → Option (Int32 × q_W)) (hr10 : ∀ x1 w, q_J X S_R l mX11_offOf 6 q_tI 10 [(0, .ref 0), (1, .int x1)] [] w (rec10 x1 w)) : ∀ x1 x2 w, q_J X S_R l mX11_offOf 6 q_tI 32 [(0, .ref 0), (1, .int x1), (2, .int x2)] [] w (fX11_offOf_l32 rec10 x1 x2 w) := by
  exact q_it_ind (fun rc => ∀ x1 x2 w, q_J X S_R l mX11_offOf 6 q_tI 32 [(0, .ref 0), (1, .int x1), (2, .int x2)] [] w (rc x1 x2 w)) _ _ (fun _ _ _ => q_none) (fun rc hrc => jX11_offOf_h32 X l rec10 hr10 rc hrc) q_N
def fX11_offOf_h10 (rec10 : Int32 → q_W → Option (Int32 × q_W)) (x1 : Int32) (w : q_W) : Option (Int32 × q_W) :=
  if (w.1 0 40) ≤ x1 then
    q_b (fX11_lays 1 w) fun r1 w2 =>
    q_b (fX11_unlikes w2) fun r3 w4 =>
    some (r3, w4)
  else
    if q_inb x1 120 then
    if q_inb x1 120 then
    q_lt (q_sI w 29 (q_ix x1) (w.1 21 (q_ix x1))) fun w5 =>
    fX11_offOf_l32 rec10 x1 0 w5
    else none
    else none
def fX11_offOf_l10 : Int32 → q_W → Option (Int32 × q_W) := q_it q_N (fX11_offOf_h10) (fun _ _ => none)
set_option maxHeartbeats 4000000 in
set_option maxRecDepth 100000 in
theorem jX11_offOf_h10 (X : q_X) (l : Launch) (rec10 : Int32 → q_W → Option (Int32 × q_W)) (hr10 : ∀ x1 w, q_J X S_R l mX11_offOf 6 q_tI 10 [(0, .ref 0), (1, .int x1)] [] w (rec10 x1 w)) : ∀ x1 w, q_J X S_R l mX11_offOf 6 q_tI 10 [(0, .ref 0), (1, .int x1)] [] w (fX11_offOf_h10 rec10 x1 w) := by
  intro x1 w
  refine q_iload_n 1 eX11_offOf_10 rfl rfl ?_
  refine q_aload_n 0 eX11_offOf_11 rfl rfl ?_
  refine q_getI eX11_offOf_12 fl_11_293 tR_0 rfl ?_
  refine q_icmp_ge (tgt := 72) eX11_offOf_15 (by decide) (fun _ => ?_) (fun _ => ?_)
  · refine q_aload_n 0 eX11_offOf_72 rfl rfl ?_
    refine q_iconst eX11_offOf_73 kiconst_1 ?_
    refine q_callVV (As := [.int 1]) (st := []) eX11_offOf_74 cv_11_400 (kX11_lays X l 1 w) tR_0 rfl (by decide) rfl rfl (Nat.le_of_ble_eq_true rfl) (by decide) (fun r1 w2 => ?_)
    refine q_aload_n 0 eX11_offOf_77 rfl rfl ?_
    refine q_callVI (As := []) (st := []) eX11_offOf_78 cv_11_424 (kX11_unlikes X l w2) tR_0 rfl (by decide) rfl rfl (Nat.le_of_ble_eq_true rfl) (by decide) (fun r3 w4 => ?_)
    exact q_ireturn eX11_offOf_81 rfl
  · refine q_aload_n 0 eX11_offOf_18 rfl rfl ?_
    refine q_getG (v := 29) eX11_offOf_19 fl_11_106 tR_0 rfl gR_0_57 ?_
    refine q_iload_n 1 eX11_offOf_22 rfl rfl ?_
    refine q_aload_n 0 eX11_offOf_23 rfl rfl ?_
    refine q_getG (v := 21) eX11_offOf_24 fl_11_79 tR_0 rfl gR_0_42 ?_
    refine q_iload_n 1 eX11_offOf_27 rfl rfl ?_
    refine q_iald eX11_offOf_28 tR_21 nR_21 ?_
    refine q_iast eX11_offOf_29 tR_29 nR_29 ?_
    refine q_ltW (fun w5 => ?_)
    refine q_iconst eX11_offOf_30 kiconst_0 ?_
    refine q_istore_n (lv' := [(2, .int 0), (0, .ref 0), (1, .int x1)]) eX11_offOf_31 rfl (by decide) rfl ?_
    exact q_sub [1, 2, 0] rfl (jX11_offOf_l32 X l rec10 hr10 x1 0 w5)
set_option maxHeartbeats 4000000 in
set_option maxRecDepth 100000 in
theorem jX11_offOf_l10 (X : q_X) (l : Launch) : ∀ x1 w, q_J X S_R l mX11_offOf 6 q_tI 10 [(0, .ref 0), (1, .int x1)] [] w (fX11_offOf_l10 x1 w) := by
  exact q_it_ind (fun rc => ∀ x1 w, q_J X S_R l mX11_offOf 6 q_tI 10 [(0, .ref 0), (1, .int x1)] [] w (rc x1 w)) _ _ (fun _ _ => q_none) (fun rc hrc => jX11_offOf_h10 X l rc hrc) q_N
def fX11_offOf (w : q_W) : Option (Int32 × q_W) :=
  q_lt (q_sI w 0 55 (w.1 0 40)) fun w1 =>
  fX11_offOf_l10 0 w1
set_option maxHeartbeats 4000000 in
set_option maxRecDepth 100000 in
theorem kX11_offOf (X : q_X) (l : Launch) (w : q_W) : q_Ct X S_R l mX11_offOf 6 q_tI [.ref 0] w (fX11_offOf w) := by
  refine q_intro (lv := [(0, .ref 0)]) (by decide +kernel) rfl (Nat.le_of_ble_eq_true rfl) rfl ?_
  refine q_aload_n 0 eX11_offOf_0 rfl rfl ?_
  refine q_aload_n 0 eX11_offOf_1 rfl rfl ?_
  refine q_getI eX11_offOf_2 fl_11_293 tR_0 rfl ?_
  refine q_putI eX11_offOf_5 fp_11_352 tR_0 rfl ⟨rfl, rfl⟩ ?_
  refine q_ltW (fun w1 => ?_)
  refine q_iconst eX11_offOf_8 kiconst_0 ?_
  refine q_istore_n (lv' := [(1, .int 0), (0, .ref 0)]) eX11_offOf_9 rfl (by decide) rfl ?_
  exact q_sub [1, 0] rfl (jX11_offOf_l10 X l 0 w1)
def fX11_bestOf_n146 (rec12 : Int32 → Int32 → q_W → Option (Int32 × q_W)) (rec46 : Int32 → Int32 → Int32 → Int32 → q_W → Option (Int32 × q_W)) (rec64 : Int32 → Int32 → Int32 → Int32 → Int32 → q_W → Option (Int32 × q_W)) (x3 : Int32) (x4 : Int32) (x5 : Int32) (x6 : Int32) (x7 : Int32) (w : q_W) : Option (Int32 × q_W) :=
  q_lt (x7 + 1) fun y1 =>
  rec64 x3 x4 x5 x6 y1 w
set_option maxHeartbeats 4000000 in
set_option maxRecDepth 100000 in
theorem jX11_bestOf_n146 (X : q_X) (l : Launch) (rec12 : Int32 → Int32 → q_W → Option (Int32 × q_W)) (rec46 : Int32 → Int32 → Int32 → Int32 → q_W → Option (Int32 × q_W)) (rec64 : Int32 → Int32 → Int32 → Int32 → Int32 → q_W → Option (Int32 × q_W)) (hr12 : ∀ x3 x4 w, q_J X S_R l mX11_bestOf 7 q_tI 12 [(0, .ref 0), (3, .int x3), (4, .int x4)] [] w (rec12 x3 x4 w)) (hr46 : ∀ x3 x4 x5 x6 w, q_J X S_R l mX11_bestOf 7 q_tI 46 [(0, .ref 0), (3, .int x3), (4, .int x4), (5, .int x5), (6, .int x6)] [] w (rec46 x3 x4 x5 x6 w)) (hr64 : ∀ x3 x4 x5 x6 x7 w, q_J X S_R l mX11_bestOf 7 q_tI 64 [(0, .ref 0), (3, .int x3), (4, .int x4), (5, .int x5), (6, .int x6), (7, .int x7)] [] w (rec64 x3 x4 x5 x6 x7 w)) (x3 : Int32) (x4 : Int32) (x5 : Int32) (x6 : Int32) (x7 : Int32) (w : q_W) : q_J X S_R l mX11_bestOf 7 q_tI 146 [(0, .ref 0), (3, .int x3), (4, .int x4), (5, .int x5), (6, .int x6), (7, .int x7)] [] w (fX11_bestOf_n146 rec12 rec46 rec64 x3 x4 x5 x6 x7 w) := by
  refine q_ltE (fun y1 hy1 => ?_)
  refine q_iinc (v := y1) (lv' := [(7, .int y1), (0, .ref 0), (3, .int x3), (4, .int x4), (5, .int x5), (6, .int x6)]) 5 eX11_bestOf_146 rfl hy1 (by decide) rfl ?_
  refine q_goto (tgt := 64) eX11_bestOf_149 (by decide) ?_
  exact q_sub [1, 2, 3, 4, 5, 0] rfl (hr64 x3 x4 x5 x6 y1 w)
def fX11_bestOf_n126 (rec12 : Int32 → Int32 → q_W → Option (Int32 × q_W)) (rec46 : Int32 → Int32 → Int32 → Int32 → q_W → Option (Int32 × q_W)) (rec64 : Int32 → Int32 → Int32 → Int32 → Int32 → q_W → Option (Int32 × q_W)) (x4 : Int32) (x5 : Int32) (x6 : Int32) (x7 : Int32) (x8 : Int32) (w : q_W) : Option (Int32 × q_W) :=
  q_lt (((16 * x4) + (4 * x6)) + x7) fun y1 =>
  q_lt (q_sI w 0 69 x8) fun w2 =>
  fX11_bestOf_n146 rec12 rec46 rec64 y1 x4 x5 x6 x7 w2
set_option maxHeartbeats 4000000 in
set_option maxRecDepth 100000 in
theorem jX11_bestOf_n126 (X : q_X) (l : Launch) (rec12 : Int32 → Int32 → q_W → Option (Int32 × q_W)) (rec46 : Int32 → Int32 → Int32 → Int32 → q_W → Option (Int32 × q_W)) (rec64 : Int32 → Int32 → Int32 → Int32 → Int32 → q_W → Option (Int32 × q_W)) (hr12 : ∀ x3 x4 w, q_J X S_R l mX11_bestOf 7 q_tI 12 [(0, .ref 0), (3, .int x3), (4, .int x4)] [] w (rec12 x3 x4 w)) (hr46 : ∀ x3 x4 x5 x6 w, q_J X S_R l mX11_bestOf 7 q_tI 46 [(0, .ref 0), (3, .int x3), (4, .int x4), (5, .int x5), (6, .int x6)] [] w (rec46 x3 x4 x5 x6 w)) (hr64 : ∀ x3 x4 x5 x6 x7 w, q_J X S_R l mX11_bestOf 7 q_tI 64 [(0, .ref 0), (3, .int x3), (4, .int x4), (5, .int x5), (6, .int x6), (7, .int x7)] [] w (rec64 x3 x4 x5 x6 x7 w)) (x4 : Int32) (x5 : Int32) (x6 : Int32) (x7 : Int32) (x8 : Int32) (w : q_W) : q_J X S_R l mX11_bestOf 7 q_tI 126 [(0, .ref 0), (4, .int x4), (5, .int x5), (6, .int x6), (7, .int x7), (8, .int x8)] [] w (fX11_bestOf_n126 rec12 rec46 rec64 x4 x5 x6 x7 x8 w) := by
  refine q_bipush eX11_bestOf_126 kbipush_16 ?_
  refine q_iload 1 eX11_bestOf_128 rfl ?_
  refine q_imul eX11_bestOf_130 ?_
  refine q_iconst eX11_bestOf_131 kiconst_4 ?_
  refine q_iload 3 eX11_bestOf_132 rfl ?_
  refine q_imul eX11_bestOf_134 ?_
  refine q_iadd eX11_bestOf_135 ?_
  refine q_iload 4 eX11_bestOf_136 rfl ?_
  refine q_iadd eX11_bestOf_138 ?_
  refine q_ltI (fun y1 => ?_)
  refine q_istore_n (lv' := [(3, .int y1), (0, .ref 0), (4, .int x4), (5, .int x5), (6, .int x6), (7, .int x7), (8, .int x8)]) eX11_bestOf_139 rfl (by decide) rfl ?_
  refine q_aload_n 1 eX11_bestOf_140 rfl rfl ?_
  refine q_iload 6 eX11_bestOf_141 rfl ?_
  refine q_putI eX11_bestOf_143 fp_11_428 tR_0 rfl ⟨rfl, rfl⟩ ?_
  refine q_ltW (fun w2 => ?_)
  exact q_sub [1, 0, 2, 3, 4, 5] rfl (jX11_bestOf_n146 X l rec12 rec46 rec64 hr12 hr46 hr64 y1 x4 x5 x6 x7 w2)
def fX11_bestOf_n77 (rec12 : Int32 → Int32 → q_W → Option (Int32 × q_W)) (rec46 : Int32 → Int32 → Int32 → Int32 → q_W → Option (Int32 × q_W)) (rec64 : Int32 → Int32 → Int32 → Int32 → Int32 → q_W → Option (Int32 × q_W)) (x3 : Int32) (x4 : Int32) (x5 : Int32) (x6 : Int32) (x7 : Int32) (s0 : Int32) (s1 : Int32) (w : q_W) : Option (Int32 × q_W) :=
  if s0 ≤ s1 then
    q_lt (x6 + 1) fun y1 =>
    rec46 x3 x4 x5 y1 w
  else
    q_b (fX11_begins 60 w) fun r2 w3 =>
    q_b (fX11_does x4 x6 x7 w3) fun r4 w5 =>
    if r4 ≤ 0 then
      q_b (fX11_offOf w5) fun r6 w7 =>
      if x3 = (-2) then
        fX11_bestOf_n126 rec12 rec46 rec64 x4 x5 x6 x7 r6 w7
      else
        if r6 < (w7.1 0 69) then
          fX11_bestOf_n126 rec12 rec46 rec64 x4 x5 x6 x7 r6 w7
        else
          fX11_bestOf_n146 rec12 rec46 rec64 x3 x4 x5 x6 x7 w7
    else
      fX11_bestOf_n146 rec12 rec46 rec64 x3 x4 x5 x6 x7 w5
set_option maxHeartbeats 4000000 in
set_option maxRecDepth 100000 in
theorem jX11_bestOf_n77 (X : q_X) (l : Launch) (rec12 : Int32 → Int32 → q_W → Option (Int32 × q_W)) (rec46 : Int32 → Int32 → Int32 → Int32 → q_W → Option (Int32 × q_W)) (rec64 : Int32 → Int32 → Int32 → Int32 → Int32 → q_W → Option (Int32 × q_W)) (hr12 : ∀ x3 x4 w, q_J X S_R l mX11_bestOf 7 q_tI 12 [(0, .ref 0), (3, .int x3), (4, .int x4)] [] w (rec12 x3 x4 w)) (hr46 : ∀ x3 x4 x5 x6 w, q_J X S_R l mX11_bestOf 7 q_tI 46 [(0, .ref 0), (3, .int x3), (4, .int x4), (5, .int x5), (6, .int x6)] [] w (rec46 x3 x4 x5 x6 w)) (hr64 : ∀ x3 x4 x5 x6 x7 w, q_J X S_R l mX11_bestOf 7 q_tI 64 [(0, .ref 0), (3, .int x3), (4, .int x4), (5, .int x5), (6, .int x6), (7, .int x7)] [] w (rec64 x3 x4 x5 x6 x7 w)) (x3 : Int32) (x4 : Int32) (x5 : Int32) (x6 : Int32) (x7 : Int32) (s0 : Int32) (s1 : Int32) (w : q_W) : q_J X S_R l mX11_bestOf 7 q_tI 77 [(0, .ref 0), (3, .int x3), (4, .int x4), (5, .int x5), (6, .int x6), (7, .int x7)] [.int s0, .int s1] w (fX11_bestOf_n77 rec12 rec46 rec64 x3 x4 x5 x6 x7 s0 s1 w) := by
  refine q_icmp_ge (tgt := 152) eX11_bestOf_77 (by decide) (fun _ => ?_) (fun _ => ?_)
  · refine q_ltE (fun y1 hy1 => ?_)
    refine q_iinc (v := y1) (lv' := [(6, .int y1), (0, .ref 0), (3, .int x3), (4, .int x4), (5, .int x5), (7, .int x7)]) 4 eX11_bestOf_152 rfl hy1 (by decide) rfl ?_
    refine q_goto (tgt := 46) eX11_bestOf_155 (by decide) ?_
    exact q_sub [1, 2, 3, 4, 0] rfl (hr46 x3 x4 x5 y1 w)
  · refine q_aload_n 0 eX11_bestOf_80 rfl rfl ?_
    refine q_bipush eX11_bestOf_81 kbipush_60 ?_
    refine q_callVV (As := [.int 60]) (st := []) eX11_bestOf_83 cv_11_333 (kX11_begins X l 60 w) tR_0 rfl (by decide) rfl rfl (Nat.le_of_ble_eq_true rfl) (by decide) (fun r2 w3 => ?_)
    refine q_aload_n 0 eX11_bestOf_86 rfl rfl ?_
    refine q_iload 2 eX11_bestOf_87 rfl ?_
    refine q_iload 4 eX11_bestOf_89 rfl ?_
    refine q_iload 5 eX11_bestOf_91 rfl ?_
    refine q_callVI (As := [.int x4, .int x6, .int x7]) (st := []) eX11_bestOf_93 cv_11_336 (kX11_does X l x4 x6 x7 w3) tR_0 rfl (by decide) rfl rfl (Nat.le_of_ble_eq_true rfl) (by decide) (fun r4 w5 => ?_)
    refine q_if_le (tgt := 102) eX11_bestOf_96 (by decide) (fun _ => ?_) (fun _ => ?_)
    · refine q_aload_n 0 eX11_bestOf_102 rfl rfl ?_
      refine q_callVI (As := []) (st := []) eX11_bestOf_103 cv_11_431 (kX11_offOf X l w5) tR_0 rfl (by decide) rfl rfl (Nat.le_of_ble_eq_true rfl) (by decide) (fun r6 w7 => ?_)
      refine q_istore (lv' := [(8, .int r6), (0, .ref 0), (3, .int x3), (4, .int x4), (5, .int x5), (6, .int x6), (7, .int x7)]) eX11_bestOf_106 (by decide) rfl ?_
      refine q_iload_n 2 eX11_bestOf_108 rfl rfl ?_
      refine q_bipush eX11_bestOf_109 kbipush_m2 ?_
      refine q_icmp_eq (tgt := 126) eX11_bestOf_111 (by decide) (fun _ => ?_) (fun _ => ?_)
      · exact q_sub [1, 3, 4, 5, 6, 0] rfl (jX11_bestOf_n126 X l rec12 rec46 rec64 hr12 hr46 hr64 x4 x5 x6 x7 r6 w7)
      · refine q_iload 0 eX11_bestOf_114 rfl ?_
        refine q_aload_n 1 eX11_bestOf_116 rfl rfl ?_
        refine q_getI eX11_bestOf_117 fl_11_428 tR_0 rfl ?_
        refine q_icmp_lt (tgt := 126) eX11_bestOf_120 (by decide) (fun _ => ?_) (fun _ => ?_)
        · exact q_sub [1, 3, 4, 5, 6, 0] rfl (jX11_bestOf_n126 X l rec12 rec46 rec64 hr12 hr46 hr64 x4 x5 x6 x7 r6 w7)
        · refine q_goto (tgt := 146) eX11_bestOf_123 (by decide) ?_
          exact q_sub [1, 2, 3, 4, 5, 6] rfl (jX11_bestOf_n146 X l rec12 rec46 rec64 hr12 hr46 hr64 x3 x4 x5 x6 x7 w7)
    · refine q_goto (tgt := 146) eX11_bestOf_99 (by decide) ?_
      exact q_sub [0, 1, 2, 3, 4, 5] rfl (jX11_bestOf_n146 X l rec12 rec46 rec64 hr12 hr46 hr64 x3 x4 x5 x6 x7 w5)
def fX11_bestOf_h64 (rec12 : Int32 → Int32 → q_W → Option (Int32 × q_W)) (rec46 : Int32 → Int32 → Int32 → Int32 → q_W → Option (Int32 × q_W)) (rec64 : Int32 → Int32 → Int32 → Int32 → Int32 → q_W → Option (Int32 × q_W)) (x3 : Int32) (x4 : Int32) (x5 : Int32) (x6 : Int32) (x7 : Int32) (w : q_W) : Option (Int32 × q_W) :=
  if x5 ≤ 1 then
    fX11_bestOf_n77 rec12 rec46 rec64 x3 x4 x5 x6 x7 1 x7 w
  else
    fX11_bestOf_n77 rec12 rec46 rec64 x3 x4 x5 x6 x7 4 x7 w
def fX11_bestOf_l64 (rec12 : Int32 → Int32 → q_W → Option (Int32 × q_W)) (rec46 : Int32 → Int32 → Int32 → Int32 → q_W → Option (Int32 × q_W)) : Int32 → Int32 → Int32 → Int32 → Int32 → q_W → Option (Int32 × q_W) := q_it q_N (fX11_bestOf_h64 rec12 rec46) (fun _ _ _ _ _ _ => none)
set_option maxHeartbeats 4000000 in
set_option maxRecDepth 100000 in
theorem jX11_bestOf_h64 (X : q_X) (l : Launch) (rec12 : Int32 → Int32 → q_W → Option (Int32 × q_W)) (rec46 : Int32 → Int32 → Int32 → Int32 → q_W → Option (Int32 × q_W)) (hr12 : ∀ x3 x4 w, q_J X S_R l mX11_bestOf 7 q_tI 12 [(0, .ref 0), (3, .int x3), (4, .int x4)] [] w (rec12 x3 x4 w)) (hr46 : ∀ x3 x4 x5 x6 w, q_J X S_R l mX11_bestOf 7 q_tI 46 [(0, .ref 0), (3, .int x3), (4, .int x4), (5, .int x5), (6, .int x6)] [] w (rec46 x3 x4 x5 x6 w)) (rec64 : Int32 → Int32 → Int32 → Int32 → Int32 → q_W → Option (Int32 × q_W)) (hr64 : ∀ x3 x4 x5 x6 x7 w, q_J X S_R l mX11_bestOf 7 q_tI 64 [(0, .ref 0), (3, .int x3), (4, .int x4), (5, .int x5), (6, .int x6), (7, .int x7)] [] w (rec64 x3 x4 x5 x6 x7 w)) : ∀ x3 x4 x5 x6 x7 w, q_J X S_R l mX11_bestOf 7 q_tI 64 [(0, .ref 0), (3, .int x3), (4, .int x4), (5, .int x5), (6, .int x6), (7, .int x7)] [] w (fX11_bestOf_h64 rec12 rec46 rec64 x3 x4 x5 x6 x7 w) := by
  intro x3 x4 x5 x6 x7 w
  refine q_iload 5 eX11_bestOf_64 rfl ?_
  refine q_iload 3 eX11_bestOf_66 rfl ?_
  refine q_iconst eX11_bestOf_68 kiconst_1 ?_
  refine q_icmp_le (tgt := 76) eX11_bestOf_69 (by decide) (fun _ => ?_) (fun _ => ?_)
  · refine q_iconst eX11_bestOf_76 kiconst_1 ?_
    exact q_sub [0, 1, 2, 3, 4, 5] rfl (jX11_bestOf_n77 X l rec12 rec46 rec64 hr12 hr46 hr64 x3 x4 x5 x6 x7 1 x7 w)
  · refine q_iconst eX11_bestOf_72 kiconst_4 ?_
    refine q_goto (tgt := 77) eX11_bestOf_73 (by decide) ?_
    exact q_sub [0, 1, 2, 3, 4, 5] rfl (jX11_bestOf_n77 X l rec12 rec46 rec64 hr12 hr46 hr64 x3 x4 x5 x6 x7 4 x7 w)
set_option maxHeartbeats 4000000 in
set_option maxRecDepth 100000 in
theorem jX11_bestOf_l64 (X : q_X) (l : Launch) (rec12 : Int32 → Int32 → q_W → Option (Int32 × q_W)) (rec46 : Int32 → Int32 → Int32 → Int32 → q_W → Option (Int32 × q_W)) (hr12 : ∀ x3 x4 w, q_J X S_R l mX11_bestOf 7 q_tI 12 [(0, .ref 0), (3, .int x3), (4, .int x4)] [] w (rec12 x3 x4 w)) (hr46 : ∀ x3 x4 x5 x6 w, q_J X S_R l mX11_bestOf 7 q_tI 46 [(0, .ref 0), (3, .int x3), (4, .int x4), (5, .int x5), (6, .int x6)] [] w (rec46 x3 x4 x5 x6 w)) : ∀ x3 x4 x5 x6 x7 w, q_J X S_R l mX11_bestOf 7 q_tI 64 [(0, .ref 0), (3, .int x3), (4, .int x4), (5, .int x5), (6, .int x6), (7, .int x7)] [] w (fX11_bestOf_l64 rec12 rec46 x3 x4 x5 x6 x7 w) := by
  exact q_it_ind (fun rc => ∀ x3 x4 x5 x6 x7 w, q_J X S_R l mX11_bestOf 7 q_tI 64 [(0, .ref 0), (3, .int x3), (4, .int x4), (5, .int x5), (6, .int x6), (7, .int x7)] [] w (rc x3 x4 x5 x6 x7 w)) _ _ (fun _ _ _ _ _ _ => q_none) (fun rc hrc => jX11_bestOf_h64 X l rec12 rec46 hr12 hr46 rc hrc) q_N
def fX11_bestOf_n58 (rec12 : Int32 → Int32 → q_W → Option (Int32 × q_W)) (rec46 : Int32 → Int32 → Int32 → Int32 → q_W → Option (Int32 × q_W)) (x3 : Int32) (x4 : Int32) (x5 : Int32) (x6 : Int32) (s0 : Int32) (s1 : Int32) (w : q_W) : Option (Int32 × q_W) :=
  if s0 ≤ s1 then
    q_lt (x4 + 1) fun y1 =>
    rec12 x3 y1 w
  else
    fX11_bestOf_l64 rec12 rec46 x3 x4 x5 x6 0 w
set_option maxHeartbeats 4000000 in
set_option maxRecDepth 100000 in
theorem jX11_bestOf_n58 (X : q_X) (l : Launch) (rec12 : Int32 → Int32 → q_W → Option (Int32 × q_W)) (rec46 : Int32 → Int32 → Int32 → Int32 → q_W → Option (Int32 × q_W)) (hr12 : ∀ x3 x4 w, q_J X S_R l mX11_bestOf 7 q_tI 12 [(0, .ref 0), (3, .int x3), (4, .int x4)] [] w (rec12 x3 x4 w)) (hr46 : ∀ x3 x4 x5 x6 w, q_J X S_R l mX11_bestOf 7 q_tI 46 [(0, .ref 0), (3, .int x3), (4, .int x4), (5, .int x5), (6, .int x6)] [] w (rec46 x3 x4 x5 x6 w)) (x3 : Int32) (x4 : Int32) (x5 : Int32) (x6 : Int32) (s0 : Int32) (s1 : Int32) (w : q_W) : q_J X S_R l mX11_bestOf 7 q_tI 58 [(0, .ref 0), (3, .int x3), (4, .int x4), (5, .int x5), (6, .int x6)] [.int s0, .int s1] w (fX11_bestOf_n58 rec12 rec46 x3 x4 x5 x6 s0 s1 w) := by
  refine q_icmp_ge (tgt := 158) eX11_bestOf_58 (by decide) (fun _ => ?_) (fun _ => ?_)
  · refine q_ltE (fun y1 hy1 => ?_)
    refine q_iinc (v := y1) (lv' := [(4, .int y1), (0, .ref 0), (3, .int x3), (5, .int x5), (6, .int x6)]) 2 eX11_bestOf_158 rfl hy1 (by decide) rfl ?_
    refine q_goto (tgt := 12) eX11_bestOf_161 (by decide) ?_
    exact q_sub [1, 2, 0] rfl (hr12 x3 y1 w)
  · refine q_iconst eX11_bestOf_61 kiconst_0 ?_
    refine q_istore (lv' := [(7, .int 0), (0, .ref 0), (3, .int x3), (4, .int x4), (5, .int x5), (6, .int x6)]) eX11_bestOf_62 (by decide) rfl ?_
    exact q_sub [1, 2, 3, 4, 5, 0] rfl (jX11_bestOf_l64 X l rec12 rec46 hr12 hr46 x3 x4 x5 x6 0 w)
def fX11_bestOf_h46 (rec12 : Int32 → Int32 → q_W → Option (Int32 × q_W)) (rec46 : Int32 → Int32 → Int32 → Int32 → q_W → Option (Int32 × q_W)) (x3 : Int32) (x4 : Int32) (x5 : Int32) (x6 : Int32) (w : q_W) : Option (Int32 × q_W) :=
  if x5 ≤ 0 then
    fX11_bestOf_n58 rec12 rec46 x3 x4 x5 x6 1 x6 w
  else
    fX11_bestOf_n58 rec12 rec46 x3 x4 x5 x6 4 x6 w
def fX11_bestOf_l46 (rec12 : Int32 → Int32 → q_W → Option (Int32 × q_W)) : Int32 → Int32 → Int32 → Int32 → q_W → Option (Int32 × q_W) := q_it q_N (fX11_bestOf_h46 rec12) (fun _ _ _ _ _ => none)
set_option maxHeartbeats 4000000 in
set_option maxRecDepth 100000 in
theorem jX11_bestOf_h46 (X : q_X) (l : Launch) (rec12 : Int32 → Int32 → q_W → Option (Int32 × q_W)) (hr12 : ∀ x3 x4 w, q_J X S_R l mX11_bestOf 7 q_tI 12 [(0, .ref 0), (3, .int x3), (4, .int x4)] [] w (rec12 x3 x4 w)) (rec46 : Int32 → Int32 → Int32 → Int32 → q_W → Option (Int32 × q_W)) (hr46 : ∀ x3 x4 x5 x6 w, q_J X S_R l mX11_bestOf 7 q_tI 46 [(0, .ref 0), (3, .int x3), (4, .int x4), (5, .int x5), (6, .int x6)] [] w (rec46 x3 x4 x5 x6 w)) : ∀ x3 x4 x5 x6 w, q_J X S_R l mX11_bestOf 7 q_tI 46 [(0, .ref 0), (3, .int x3), (4, .int x4), (5, .int x5), (6, .int x6)] [] w (fX11_bestOf_h46 rec12 rec46 x3 x4 x5 x6 w) := by
  intro x3 x4 x5 x6 w
  refine q_iload 4 eX11_bestOf_46 rfl ?_
  refine q_iload 3 eX11_bestOf_48 rfl ?_
  refine q_if_le (tgt := 57) eX11_bestOf_50 (by decide) (fun _ => ?_) (fun _ => ?_)
  · refine q_iconst eX11_bestOf_57 kiconst_1 ?_
    exact q_sub [0, 1, 2, 3, 4] rfl (jX11_bestOf_n58 X l rec12 rec46 hr12 hr46 x3 x4 x5 x6 1 x6 w)
  · refine q_iconst eX11_bestOf_53 kiconst_4 ?_
    refine q_goto (tgt := 58) eX11_bestOf_54 (by decide) ?_
    exact q_sub [0, 1, 2, 3, 4] rfl (jX11_bestOf_n58 X l rec12 rec46 hr12 hr46 x3 x4 x5 x6 4 x6 w)
set_option maxHeartbeats 4000000 in
set_option maxRecDepth 100000 in
theorem jX11_bestOf_l46 (X : q_X) (l : Launch) (rec12 : Int32 → Int32 → q_W → Option (Int32 × q_W)) (hr12 : ∀ x3 x4 w, q_J X S_R l mX11_bestOf 7 q_tI 12 [(0, .ref 0), (3, .int x3), (4, .int x4)] [] w (rec12 x3 x4 w)) : ∀ x3 x4 x5 x6 w, q_J X S_R l mX11_bestOf 7 q_tI 46 [(0, .ref 0), (3, .int x3), (4, .int x4), (5, .int x5), (6, .int x6)] [] w (fX11_bestOf_l46 rec12 x3 x4 x5 x6 w) := by
  exact q_it_ind (fun rc => ∀ x3 x4 x5 x6 w, q_J X S_R l mX11_bestOf 7 q_tI 46 [(0, .ref 0), (3, .int x3), (4, .int x4), (5, .int x5), (6, .int x6)] [] w (rc x3 x4 x5 x6 w)) _ _ (fun _ _ _ _ _ => q_none) (fun rc hrc => jX11_bestOf_h46 X l rec12 hr12 rc hrc) q_N
def fX11_bestOf_h12 (rec12 : Int32 → Int32 → q_W → Option (Int32 × q_W)) (x3 : Int32) (x4 : Int32) (w : q_W) : Option (Int32 × q_W) :=
  q_lt (w.1 0 18) fun y1 =>
  if q_inb y1 2 then
  if (w.1 8 (q_ix y1)) ≤ x4 then
    some (x3, w)
  else
    q_lt ((8 * (w.1 0 18)) + x4) fun y2 =>
    if q_inb y2 16 then
    q_lt (w.1 10 (q_ix y2)) fun y3 =>
    fX11_bestOf_l46 rec12 x3 x4 y3 0 w
    else none
  else none
def fX11_bestOf_l12 : Int32 → Int32 → q_W → Option (Int32 × q_W) := q_it q_N (fX11_bestOf_h12) (fun _ _ _ => none)
set_option maxHeartbeats 4000000 in
set_option maxRecDepth 100000 in
theorem jX11_bestOf_h12 (X : q_X) (l : Launch) (rec12 : Int32 → Int32 → q_W → Option (Int32 × q_W)) (hr12 : ∀ x3 x4 w, q_J X S_R l mX11_bestOf 7 q_tI 12 [(0, .ref 0), (3, .int x3), (4, .int x4)] [] w (rec12 x3 x4 w)) : ∀ x3 x4 w, q_J X S_R l mX11_bestOf 7 q_tI 12 [(0, .ref 0), (3, .int x3), (4, .int x4)] [] w (fX11_bestOf_h12 rec12 x3 x4 w) := by
  intro x3 x4 w
  refine q_iload 2 eX11_bestOf_12 rfl ?_
  refine q_aload_n 0 eX11_bestOf_14 rfl rfl ?_
  refine q_getG (v := 8) eX11_bestOf_15 fl_11_40 tR_0 rfl gR_0_20 ?_
  refine q_aload_n 0 eX11_bestOf_18 rfl rfl ?_
  refine q_getI eX11_bestOf_19 fl_11_206 tR_0 rfl ?_
  refine q_ltI (fun y1 => ?_)
  refine q_iald eX11_bestOf_22 tR_8 nR_8 ?_
  refine q_icmp_ge (tgt := 164) eX11_bestOf_23 (by decide) (fun _ => ?_) (fun _ => ?_)
  · refine q_iload_n 1 eX11_bestOf_164 rfl rfl ?_
    exact q_ireturn eX11_bestOf_165 rfl
  · refine q_aload_n 0 eX11_bestOf_26 rfl rfl ?_
    refine q_getG (v := 10) eX11_bestOf_27 fl_11_46 tR_0 rfl gR_0_22 ?_
    refine q_bipush eX11_bestOf_30 kbipush_8 ?_
    refine q_aload_n 0 eX11_bestOf_32 rfl rfl ?_
    refine q_getI eX11_bestOf_33 fl_11_206 tR_0 rfl ?_
    refine q_imul eX11_bestOf_36 ?_
    refine q_iload 2 eX11_bestOf_37 rfl ?_
    refine q_iadd eX11_bestOf_39 ?_
    refine q_ltI (fun y2 => ?_)
    refine q_iald eX11_bestOf_40 tR_10 nR_10 ?_
    refine q_ltI (fun y3 => ?_)
    refine q_istore (lv' := [(5, .int y3), (0, .ref 0), (3, .int x3), (4, .int x4)]) eX11_bestOf_41 (by decide) rfl ?_
    refine q_iconst eX11_bestOf_43 kiconst_0 ?_
    refine q_istore (lv' := [(6, .int 0), (5, .int y3), (0, .ref 0), (3, .int x3), (4, .int x4)]) eX11_bestOf_44 (by decide) rfl ?_
    exact q_sub [2, 3, 4, 1, 0] rfl (jX11_bestOf_l46 X l rec12 hr12 x3 x4 y3 0 w)
set_option maxHeartbeats 4000000 in
set_option maxRecDepth 100000 in
theorem jX11_bestOf_l12 (X : q_X) (l : Launch) : ∀ x3 x4 w, q_J X S_R l mX11_bestOf 7 q_tI 12 [(0, .ref 0), (3, .int x3), (4, .int x4)] [] w (fX11_bestOf_l12 x3 x4 w) := by
  exact q_it_ind (fun rc => ∀ x3 x4 w, q_J X S_R l mX11_bestOf 7 q_tI 12 [(0, .ref 0), (3, .int x3), (4, .int x4)] [] w (rc x3 x4 w)) _ _ (fun _ _ _ => q_none) (fun rc hrc => jX11_bestOf_h12 X l rc hrc) q_N
def fX11_bestOf (a1 : Int32) (a2 : Int32) (w : q_W) : Option (Int32 × q_W) :=
  q_lt (q_sI w 0 69 (-2)) fun w1 =>
  fX11_bestOf_l12 (-2) 0 w1
set_option maxHeartbeats 4000000 in
set_option maxRecDepth 100000 in
theorem kX11_bestOf (X : q_X) (l : Launch) (a1 : Int32) (a2 : Int32) (w : q_W) : q_Ct X S_R l mX11_bestOf 7 q_tI [.ref 0, .int a1, .int a2] w (fX11_bestOf a1 a2 w) := by
  refine q_intro (lv := [(0, .ref 0), (1, .int a1), (2, .int a2)]) (by decide +kernel) rfl (Nat.le_of_ble_eq_true rfl) rfl ?_
  refine q_bipush eX11_bestOf_0 kbipush_m2 ?_
  refine q_istore_n (lv' := [(3, .int (-2)), (0, .ref 0), (1, .int a1), (2, .int a2)]) eX11_bestOf_2 rfl (by decide) rfl ?_
  refine q_aload_n 1 eX11_bestOf_3 rfl rfl ?_
  refine q_bipush eX11_bestOf_4 kbipush_m2 ?_
  refine q_putI eX11_bestOf_6 fp_11_428 tR_0 rfl ⟨rfl, rfl⟩ ?_
  refine q_ltW (fun w1 => ?_)
  refine q_iconst eX11_bestOf_9 kiconst_0 ?_
  refine q_istore (lv' := [(4, .int 0), (3, .int (-2)), (0, .ref 0), (1, .int a1), (2, .int a2)]) eX11_bestOf_10 (by decide) rfl ?_
  exact q_sub [2, 1, 0] rfl (jX11_bestOf_l12 X l (-2) 0 w1)
def fX11_made (a1 : Int32) (a2 : Int32) (w : q_W) : Option (Int32 × q_W) :=
  q_b (fX11_isSheet a1 a2 0 w) fun r1 w2 =>
  if r1 = 0 then
    some ((-1), w2)
  else
    q_b (fX11_bestOf a1 a2 w2) fun r3 w4 =>
    some (r3, w4)
set_option maxHeartbeats 4000000 in
set_option maxRecDepth 100000 in
theorem kX11_made (X : q_X) (l : Launch) (a1 : Int32) (a2 : Int32) (w : q_W) : q_Ct X S_R l mX11_made 8 q_tI [.ref 0, .int a1, .int a2] w (fX11_made a1 a2 w) := by
  refine q_intro (lv := [(0, .ref 0), (1, .int a1), (2, .int a2)]) (by decide +kernel) rfl (Nat.le_of_ble_eq_true rfl) rfl ?_
  refine q_aload_n 0 eX11_made_0 rfl rfl ?_
  refine q_iload_n 1 eX11_made_1 rfl rfl ?_
  refine q_iload_n 2 eX11_made_2 rfl rfl ?_
  refine q_iconst eX11_made_3 kiconst_0 ?_
  refine q_callVI (As := [.int a1, .int a2, .int 0]) (st := []) eX11_made_4 cv_11_403 (kX11_isSheet X l a1 a2 0 w) tR_0 rfl (by decide) rfl rfl (Nat.le_of_ble_eq_true rfl) (by decide) (fun r1 w2 => ?_)
  refine q_if_eq (tgt := 19) eX11_made_7 (by decide) (fun _ => ?_) (fun _ => ?_)
  · refine q_iconst eX11_made_19 kiconst_m1 ?_
    exact q_ireturn eX11_made_20 rfl
  · refine q_aload_n 0 eX11_made_10 rfl rfl ?_
    refine q_iload_n 1 eX11_made_11 rfl rfl ?_
    refine q_iload_n 2 eX11_made_12 rfl rfl ?_
    refine q_callVI (As := [.int a1, .int a2]) (st := []) eX11_made_13 cv_11_434 (kX11_bestOf X l a1 a2 w2) tR_0 rfl (by decide) rfl rfl (Nat.le_of_ble_eq_true rfl) (by decide) (fun r3 w4 => ?_)
    refine q_goto (tgt := 20) eX11_made_16 (by decide) ?_
    exact q_ireturn eX11_made_20 rfl
def fX11_off (a1 : Int32) (a2 : Int32) (w : q_W) : Option (Int32 × q_W) :=
  q_b (fX11_isSheet a1 a2 0 w) fun r1 w2 =>
  if r1 = 0 then
    some ((-1), w2)
  else
    q_b (fX11_bestOf a1 a2 w2) fun r3 w4 =>
    if r3 = (-2) then
      some ((-2), w4)
    else
      some ((w4.1 0 69), w4)
set_option maxHeartbeats 4000000 in
set_option maxRecDepth 100000 in
theorem kX11_off (X : q_X) (l : Launch) (a1 : Int32) (a2 : Int32) (w : q_W) : q_Ct X S_R l mX11_off 8 q_tI [.ref 0, .int a1, .int a2] w (fX11_off a1 a2 w) := by
  refine q_intro (lv := [(0, .ref 0), (1, .int a1), (2, .int a2)]) (by decide +kernel) rfl (Nat.le_of_ble_eq_true rfl) rfl ?_
  refine q_aload_n 0 eX11_off_0 rfl rfl ?_
  refine q_iload_n 1 eX11_off_1 rfl rfl ?_
  refine q_iload_n 2 eX11_off_2 rfl rfl ?_
  refine q_iconst eX11_off_3 kiconst_0 ?_
  refine q_callVI (As := [.int a1, .int a2, .int 0]) (st := []) eX11_off_4 cv_11_403 (kX11_isSheet X l a1 a2 0 w) tR_0 rfl (by decide) rfl rfl (Nat.le_of_ble_eq_true rfl) (by decide) (fun r1 w2 => ?_)
  refine q_if_ne (tgt := 12) eX11_off_7 (by decide) (fun _ => ?_) (fun _ => ?_)
  · refine q_iconst eX11_off_10 kiconst_m1 ?_
    exact q_ireturn eX11_off_11 rfl
  · refine q_aload_n 0 eX11_off_12 rfl rfl ?_
    refine q_iload_n 1 eX11_off_13 rfl rfl ?_
    refine q_iload_n 2 eX11_off_14 rfl rfl ?_
    refine q_callVI (As := [.int a1, .int a2]) (st := []) eX11_off_15 cv_11_434 (kX11_bestOf X l a1 a2 w2) tR_0 rfl (by decide) rfl rfl (Nat.le_of_ble_eq_true rfl) (by decide) (fun r3 w4 => ?_)
    refine q_istore_n (lv' := [(3, .int r3), (0, .ref 0), (1, .int a1), (2, .int a2)]) eX11_off_18 rfl (by decide) rfl ?_
    refine q_iload_n 0 eX11_off_19 rfl rfl ?_
    refine q_bipush eX11_off_20 kbipush_m2 ?_
    refine q_icmp_ne (tgt := 30) eX11_off_22 (by decide) (fun _ => ?_) (fun _ => ?_)
    · refine q_bipush eX11_off_25 kbipush_m2 ?_
      refine q_goto (tgt := 34) eX11_off_27 (by decide) ?_
      exact q_ireturn eX11_off_34 rfl
    · refine q_aload_n 1 eX11_off_30 rfl rfl ?_
      refine q_getI eX11_off_31 fl_11_428 tR_0 rfl ?_
      exact q_ireturn eX11_off_34 rfl
def fX11_row_n227 (rec33 : Int32 → Int32 → Int32 → Int32 → q_W → Option (Int32 × q_W)) (rec49 : Int32 → Int32 → Int32 → Int32 → Int32 → q_W → Option (Int32 × q_W)) (x2 : Int32) (x4 : Int32) (x5 : Int32) (x6 : Int32) (x7 : Int32) (w : q_W) : Option (Int32 × q_W) :=
  q_lt (x7 + 1) fun y1 =>
  rec49 x2 x4 x5 x6 y1 w
set_option maxHeartbeats 4000000 in
set_option maxRecDepth 100000 in
theorem jX11_row_n227 (X : q_X) (l : Launch) (rec33 : Int32 → Int32 → Int32 → Int32 → q_W → Option (Int32 × q_W)) (rec49 : Int32 → Int32 → Int32 → Int32 → Int32 → q_W → Option (Int32 × q_W)) (hr33 : ∀ x2 x4 x5 x6 w, q_J X S_R l mX11_row 7 q_tI 33 [(0, .ref 0), (2, .int x2), (4, .int x4), (5, .int x5), (6, .int x6)] [] w (rec33 x2 x4 x5 x6 w)) (hr49 : ∀ x2 x4 x5 x6 x7 w, q_J X S_R l mX11_row 7 q_tI 49 [(0, .ref 0), (2, .int x2), (4, .int x4), (5, .int x5), (6, .int x6), (7, .int x7)] [] w (rec49 x2 x4 x5 x6 x7 w)) (x2 : Int32) (x4 : Int32) (x5 : Int32) (x6 : Int32) (x7 : Int32) (w : q_W) : q_J X S_R l mX11_row 7 q_tI 227 [(0, .ref 0), (2, .int x2), (4, .int x4), (5, .int x5), (6, .int x6), (7, .int x7)] [] w (fX11_row_n227 rec33 rec49 x2 x4 x5 x6 x7 w) := by
  refine q_ltE (fun y1 hy1 => ?_)
  refine q_iinc (v := y1) (lv' := [(7, .int y1), (0, .ref 0), (2, .int x2), (4, .int x4), (5, .int x5), (6, .int x6)]) 5 eX11_row_227 rfl hy1 (by decide) rfl ?_
  refine q_goto (tgt := 49) eX11_row_230 (by decide) ?_
  exact q_sub [1, 2, 3, 4, 5, 0] rfl (hr49 x2 x4 x5 x6 y1 w)
def fX11_row_h197 (rec197 : Int32 → Int32 → q_W → Option (Int32 × q_W)) (x6 : Int32) (x10 : Int32) (w : q_W) : Option (Int32 × q_W) :=
  if x6 ≤ x10 then
    some (x6, w)
  else
    if q_inb x10 3 then
    if q_inb x10 3 then
    q_lt (q_sI w 35 (q_ix x10) (w.1 36 (q_ix x10))) fun w1 =>
    q_lt (x10 + 1) fun y2 =>
    rec197 x6 y2 w1
    else none
    else none
def fX11_row_l197 : Int32 → Int32 → q_W → Option (Int32 × q_W) := q_it q_N (fX11_row_h197) (fun _ _ _ => none)
set_option maxHeartbeats 4000000 in
set_option maxRecDepth 100000 in
theorem jX11_row_h197 (X : q_X) (l : Launch) (rec197 : Int32 → Int32 → q_W → Option (Int32 × q_W)) (hr197 : ∀ x6 x10 w, q_J X S_R l mX11_row 7 q_tI 197 [(0, .ref 0), (6, .int x6), (10, .int x10)] [] w (rec197 x6 x10 w)) : ∀ x6 x10 w, q_J X S_R l mX11_row 7 q_tI 197 [(0, .ref 0), (6, .int x6), (10, .int x10)] [] w (fX11_row_h197 rec197 x6 x10 w) := by
  intro x6 x10 w
  refine q_iload 2 eX11_row_197 rfl ?_
  refine q_iload 1 eX11_row_199 rfl ?_
  refine q_icmp_ge (tgt := 224) eX11_row_201 (by decide) (fun _ => ?_) (fun _ => ?_)
  · refine q_iload 1 eX11_row_224 rfl ?_
    exact q_ireturn eX11_row_226 rfl
  · refine q_aload_n 0 eX11_row_204 rfl rfl ?_
    refine q_getG (v := 35) eX11_row_205 fl_11_125 tR_0 rfl gR_0_71 ?_
    refine q_iload 2 eX11_row_208 rfl ?_
    refine q_aload_n 0 eX11_row_210 rfl rfl ?_
    refine q_getG (v := 36) eX11_row_211 fl_11_128 tR_0 rfl gR_0_72 ?_
    refine q_iload 2 eX11_row_214 rfl ?_
    refine q_iald eX11_row_216 tR_36 nR_36 ?_
    refine q_iast eX11_row_217 tR_35 nR_35 ?_
    refine q_ltW (fun w1 => ?_)
    refine q_ltE (fun y2 hy2 => ?_)
    refine q_iinc (v := y2) (lv' := [(10, .int y2), (0, .ref 0), (6, .int x6)]) 2 eX11_row_218 rfl hy2 (by decide) rfl ?_
    refine q_goto (tgt := 197) eX11_row_221 (by decide) ?_
    exact q_sub [1, 2, 0] rfl (hr197 x6 y2 w1)
set_option maxHeartbeats 4000000 in
set_option maxRecDepth 100000 in
theorem jX11_row_l197 (X : q_X) (l : Launch) : ∀ x6 x10 w, q_J X S_R l mX11_row 7 q_tI 197 [(0, .ref 0), (6, .int x6), (10, .int x10)] [] w (fX11_row_l197 x6 x10 w) := by
  exact q_it_ind (fun rc => ∀ x6 x10 w, q_J X S_R l mX11_row 7 q_tI 197 [(0, .ref 0), (6, .int x6), (10, .int x10)] [] w (rc x6 x10 w)) _ _ (fun _ _ _ => q_none) (fun rc hrc => jX11_row_h197 X l rc hrc) q_N
def fX11_row_n172 (rec33 : Int32 → Int32 → Int32 → Int32 → q_W → Option (Int32 × q_W)) (rec49 : Int32 → Int32 → Int32 → Int32 → Int32 → q_W → Option (Int32 × q_W)) (x2 : Int32) (x4 : Int32) (x5 : Int32) (x6 : Int32) (x7 : Int32) (x9 : Int32) (w : q_W) : Option (Int32 × q_W) :=
  if x9 = 0 then
    fX11_row_n227 rec33 rec49 x2 x4 x5 x6 x7 w
  else
    q_b (fX11_offOf w) fun r1 w2 =>
    if r1 ≤ x2 then
      q_lt (q_sI w2 0 70 x6) fun w3 =>
      fX11_row_l197 x6 0 w3
    else
      fX11_row_n227 rec33 rec49 x2 x4 x5 x6 x7 w2
set_option maxHeartbeats 4000000 in
set_option maxRecDepth 100000 in
theorem jX11_row_n172 (X : q_X) (l : Launch) (rec33 : Int32 → Int32 → Int32 → Int32 → q_W → Option (Int32 × q_W)) (rec49 : Int32 → Int32 → Int32 → Int32 → Int32 → q_W → Option (Int32 × q_W)) (hr33 : ∀ x2 x4 x5 x6 w, q_J X S_R l mX11_row 7 q_tI 33 [(0, .ref 0), (2, .int x2), (4, .int x4), (5, .int x5), (6, .int x6)] [] w (rec33 x2 x4 x5 x6 w)) (hr49 : ∀ x2 x4 x5 x6 x7 w, q_J X S_R l mX11_row 7 q_tI 49 [(0, .ref 0), (2, .int x2), (4, .int x4), (5, .int x5), (6, .int x6), (7, .int x7)] [] w (rec49 x2 x4 x5 x6 x7 w)) (x2 : Int32) (x4 : Int32) (x5 : Int32) (x6 : Int32) (x7 : Int32) (x9 : Int32) (w : q_W) : q_J X S_R l mX11_row 7 q_tI 172 [(0, .ref 0), (2, .int x2), (4, .int x4), (5, .int x5), (6, .int x6), (7, .int x7), (9, .int x9)] [] w (fX11_row_n172 rec33 rec49 x2 x4 x5 x6 x7 x9 w) := by
  refine q_iload 6 eX11_row_172 rfl ?_
  refine q_if_eq (tgt := 227) eX11_row_174 (by decide) (fun _ => ?_) (fun _ => ?_)
  · exact q_sub [0, 1, 2, 3, 4, 5] rfl (jX11_row_n227 X l rec33 rec49 hr33 hr49 x2 x4 x5 x6 x7 w)
  · refine q_aload_n 0 eX11_row_177 rfl rfl ?_
    refine q_callVI (As := []) (st := []) eX11_row_178 cv_11_431 (kX11_offOf X l w) tR_0 rfl (by decide) rfl rfl (Nat.le_of_ble_eq_true rfl) (by decide) (fun r1 w2 => ?_)
    refine q_iload_n 1 eX11_row_181 rfl rfl ?_
    refine q_icmp_le (tgt := 188) eX11_row_182 (by decide) (fun _ => ?_) (fun _ => ?_)
    · refine q_aload_n 0 eX11_row_188 rfl rfl ?_
      refine q_iload 4 eX11_row_189 rfl ?_
      refine q_putI eX11_row_191 fp_11_437 tR_0 rfl ⟨rfl, rfl⟩ ?_
      refine q_ltW (fun w3 => ?_)
      refine q_iconst eX11_row_194 kiconst_0 ?_
      refine q_istore (lv' := [(10, .int 0), (0, .ref 0), (2, .int x2), (4, .int x4), (5, .int x5), (6, .int x6), (7, .int x7), (9, .int x9)]) eX11_row_195 (by decide) rfl ?_
      exact q_sub [1, 5, 0] rfl (jX11_row_l197 X l x6 0 w3)
    · refine q_goto (tgt := 227) eX11_row_185 (by decide) ?_
      exact q_sub [0, 1, 2, 3, 4, 5] rfl (jX11_row_n227 X l rec33 rec49 hr33 hr49 x2 x4 x5 x6 x7 w2)
def fX11_row_n164 (rec33 : Int32 → Int32 → Int32 → Int32 → q_W → Option (Int32 × q_W)) (rec49 : Int32 → Int32 → Int32 → Int32 → Int32 → q_W → Option (Int32 × q_W)) (rec108 : Int32 → Int32 → Int32 → Int32 → Int32 → Int32 → Int32 → q_W → Option (Int32 × q_W)) (x2 : Int32) (x4 : Int32) (x5 : Int32) (x6 : Int32) (x7 : Int32) (x10 : Int32) (s0 : Int32) (w : q_W) : Option (Int32 × q_W) :=
  q_lt (x10 + 1) fun y1 =>
  rec108 x2 x4 x5 x6 x7 s0 y1 w
set_option maxHeartbeats 4000000 in
set_option maxRecDepth 100000 in
theorem jX11_row_n164 (X : q_X) (l : Launch) (rec33 : Int32 → Int32 → Int32 → Int32 → q_W → Option (Int32 × q_W)) (rec49 : Int32 → Int32 → Int32 → Int32 → Int32 → q_W → Option (Int32 × q_W)) (rec108 : Int32 → Int32 → Int32 → Int32 → Int32 → Int32 → Int32 → q_W → Option (Int32 × q_W)) (hr33 : ∀ x2 x4 x5 x6 w, q_J X S_R l mX11_row 7 q_tI 33 [(0, .ref 0), (2, .int x2), (4, .int x4), (5, .int x5), (6, .int x6)] [] w (rec33 x2 x4 x5 x6 w)) (hr49 : ∀ x2 x4 x5 x6 x7 w, q_J X S_R l mX11_row 7 q_tI 49 [(0, .ref 0), (2, .int x2), (4, .int x4), (5, .int x5), (6, .int x6), (7, .int x7)] [] w (rec49 x2 x4 x5 x6 x7 w)) (hr108 : ∀ x2 x4 x5 x6 x7 x9 x10 w, q_J X S_R l mX11_row 7 q_tI 108 [(0, .ref 0), (2, .int x2), (4, .int x4), (5, .int x5), (6, .int x6), (7, .int x7), (9, .int x9), (10, .int x10)] [] w (rec108 x2 x4 x5 x6 x7 x9 x10 w)) (x2 : Int32) (x4 : Int32) (x5 : Int32) (x6 : Int32) (x7 : Int32) (x10 : Int32) (s0 : Int32) (w : q_W) : q_J X S_R l mX11_row 7 q_tI 164 [(0, .ref 0), (2, .int x2), (4, .int x4), (5, .int x5), (6, .int x6), (7, .int x7), (10, .int x10)] [.int s0] w (fX11_row_n164 rec33 rec49 rec108 x2 x4 x5 x6 x7 x10 s0 w) := by
  refine q_istore (lv' := [(9, .int s0), (0, .ref 0), (2, .int x2), (4, .int x4), (5, .int x5), (6, .int x6), (7, .int x7), (10, .int x10)]) eX11_row_164 (by decide) rfl ?_
  refine q_ltE (fun y1 hy1 => ?_)
  refine q_iinc (v := y1) (lv' := [(10, .int y1), (9, .int s0), (0, .ref 0), (2, .int x2), (4, .int x4), (5, .int x5), (6, .int x6), (7, .int x7)]) 7 eX11_row_166 rfl hy1 (by decide) rfl ?_
  refine q_goto (tgt := 108) eX11_row_169 (by decide) ?_
  exact q_sub [2, 3, 4, 5, 6, 7, 1, 0] rfl (hr108 x2 x4 x5 x6 x7 s0 y1 w)
def fX11_row_n163 (rec33 : Int32 → Int32 → Int32 → Int32 → q_W → Option (Int32 × q_W)) (rec49 : Int32 → Int32 → Int32 → Int32 → Int32 → q_W → Option (Int32 × q_W)) (rec108 : Int32 → Int32 → Int32 → Int32 → Int32 → Int32 → Int32 → q_W → Option (Int32 × q_W)) (x2 : Int32) (x4 : Int32) (x5 : Int32) (x6 : Int32) (x7 : Int32) (x10 : Int32) (w : q_W) : Option (Int32 × q_W) :=
  fX11_row_n164 rec33 rec49 rec108 x2 x4 x5 x6 x7 x10 0 w
set_option maxHeartbeats 4000000 in
set_option maxRecDepth 100000 in
theorem jX11_row_n163 (X : q_X) (l : Launch) (rec33 : Int32 → Int32 → Int32 → Int32 → q_W → Option (Int32 × q_W)) (rec49 : Int32 → Int32 → Int32 → Int32 → Int32 → q_W → Option (Int32 × q_W)) (rec108 : Int32 → Int32 → Int32 → Int32 → Int32 → Int32 → Int32 → q_W → Option (Int32 × q_W)) (hr33 : ∀ x2 x4 x5 x6 w, q_J X S_R l mX11_row 7 q_tI 33 [(0, .ref 0), (2, .int x2), (4, .int x4), (5, .int x5), (6, .int x6)] [] w (rec33 x2 x4 x5 x6 w)) (hr49 : ∀ x2 x4 x5 x6 x7 w, q_J X S_R l mX11_row 7 q_tI 49 [(0, .ref 0), (2, .int x2), (4, .int x4), (5, .int x5), (6, .int x6), (7, .int x7)] [] w (rec49 x2 x4 x5 x6 x7 w)) (hr108 : ∀ x2 x4 x5 x6 x7 x9 x10 w, q_J X S_R l mX11_row 7 q_tI 108 [(0, .ref 0), (2, .int x2), (4, .int x4), (5, .int x5), (6, .int x6), (7, .int x7), (9, .int x9), (10, .int x10)] [] w (rec108 x2 x4 x5 x6 x7 x9 x10 w)) (x2 : Int32) (x4 : Int32) (x5 : Int32) (x6 : Int32) (x7 : Int32) (x10 : Int32) (w : q_W) : q_J X S_R l mX11_row 7 q_tI 163 [(0, .ref 0), (2, .int x2), (4, .int x4), (5, .int x5), (6, .int x6), (7, .int x7), (10, .int x10)] [] w (fX11_row_n163 rec33 rec49 rec108 x2 x4 x5 x6 x7 x10 w) := by
  refine q_iconst eX11_row_163 kiconst_0 ?_
  exact q_sub [0, 1, 2, 3, 4, 5, 6] rfl (jX11_row_n164 X l rec33 rec49 rec108 hr33 hr49 hr108 x2 x4 x5 x6 x7 x10 0 w)
def fX11_row_h108 (rec33 : Int32 → Int32 → Int32 → Int32 → q_W → Option (Int32 × q_W)) (rec49 : Int32 → Int32 → Int32 → Int32 → Int32 → q_W → Option (Int32 × q_W)) (rec108 : Int32 → Int32 → Int32 → Int32 → Int32 → Int32 → Int32 → q_W → Option (Int32 × q_W)) (x2 : Int32) (x4 : Int32) (x5 : Int32) (x6 : Int32) (x7 : Int32) (x9 : Int32) (x10 : Int32) (w : q_W) : Option (Int32 × q_W) :=
  if x6 ≤ x10 then
    fX11_row_n172 rec33 rec49 x2 x4 x5 x6 x7 x9 w
  else
    if x9 = 0 then
      fX11_row_n172 rec33 rec49 x2 x4 x5 x6 x7 x9 w
    else
      if q_inb x10 3 then
      q_lt ((8 * (w.1 0 18)) + (w.1 36 (q_ix x10))) fun y1 =>
      if q_inb y1 16 then
      if (w.1 10 (q_ix y1)) = 0 then
        if q_inb x10 3 then
        q_b (fX11_does (w.1 36 (q_ix x10)) 0 0 w) fun r2 w3 =>
        if r2 = 0 then
          fX11_row_n164 rec33 rec49 rec108 x2 x4 x5 x6 x7 x10 1 w3
        else
          fX11_row_n163 rec33 rec49 rec108 x2 x4 x5 x6 x7 x10 w3
        else none
      else
        fX11_row_n163 rec33 rec49 rec108 x2 x4 x5 x6 x7 x10 w
      else none
      else none
def fX11_row_l108 (rec33 : Int32 → Int32 → Int32 → Int32 → q_W → Option (Int32 × q_W)) (rec49 : Int32 → Int32 → Int32 → Int32 → Int32 → q_W → Option (Int32 × q_W)) : Int32 → Int32 → Int32 → Int32 → Int32 → Int32 → Int32 → q_W → Option (Int32 × q_W) := q_it q_N (fX11_row_h108 rec33 rec49) (fun _ _ _ _ _ _ _ _ => none)
set_option maxHeartbeats 4000000 in
set_option maxRecDepth 100000 in
theorem jX11_row_h108 (X : q_X) (l : Launch) (rec33 : Int32 → Int32 → Int32 → Int32 → q_W → Option (Int32 × q_W)) (rec49 : Int32 → Int32 → Int32 → Int32 → Int32 → q_W → Option (Int32 × q_W)) (hr33 : ∀ x2 x4 x5 x6 w, q_J X S_R l mX11_row 7 q_tI 33 [(0, .ref 0), (2, .int x2), (4, .int x4), (5, .int x5), (6, .int x6)] [] w (rec33 x2 x4 x5 x6 w)) (hr49 : ∀ x2 x4 x5 x6 x7 w, q_J X S_R l mX11_row 7 q_tI 49 [(0, .ref 0), (2, .int x2), (4, .int x4), (5, .int x5), (6, .int x6), (7, .int x7)] [] w (rec49 x2 x4 x5 x6 x7 w)) (rec108 : Int32 → Int32 → Int32 → Int32 → Int32 → Int32 → Int32 → q_W → Option (Int32 × q_W)) (hr108 : ∀ x2 x4 x5 x6 x7 x9 x10 w, q_J X S_R l mX11_row 7 q_tI 108 [(0, .ref 0), (2, .int x2), (4, .int x4), (5, .int x5), (6, .int x6), (7, .int x7), (9, .int x9), (10, .int x10)] [] w (rec108 x2 x4 x5 x6 x7 x9 x10 w)) : ∀ x2 x4 x5 x6 x7 x9 x10 w, q_J X S_R l mX11_row 7 q_tI 108 [(0, .ref 0), (2, .int x2), (4, .int x4), (5, .int x5), (6, .int x6), (7, .int x7), (9, .int x9), (10, .int x10)] [] w (fX11_row_h108 rec33 rec49 rec108 x2 x4 x5 x6 x7 x9 x10 w) := by
  intro x2 x4 x5 x6 x7 x9 x10 w
  refine q_iload 7 eX11_row_108 rfl ?_
  refine q_iload 4 eX11_row_110 rfl ?_
  refine q_icmp_ge (tgt := 172) eX11_row_112 (by decide) (fun _ => ?_) (fun _ => ?_)
  · exact q_sub [0, 1, 2, 3, 4, 5, 6] rfl (jX11_row_n172 X l rec33 rec49 hr33 hr49 x2 x4 x5 x6 x7 x9 w)
  · refine q_iload 6 eX11_row_115 rfl ?_
    refine q_if_eq (tgt := 172) eX11_row_117 (by decide) (fun _ => ?_) (fun _ => ?_)
    · exact q_sub [0, 1, 2, 3, 4, 5, 6] rfl (jX11_row_n172 X l rec33 rec49 hr33 hr49 x2 x4 x5 x6 x7 x9 w)
    · refine q_aload_n 0 eX11_row_120 rfl rfl ?_
      refine q_getG (v := 10) eX11_row_121 fl_11_46 tR_0 rfl gR_0_22 ?_
      refine q_bipush eX11_row_124 kbipush_8 ?_
      refine q_aload_n 0 eX11_row_126 rfl rfl ?_
      refine q_getI eX11_row_127 fl_11_206 tR_0 rfl ?_
      refine q_imul eX11_row_130 ?_
      refine q_aload_n 0 eX11_row_131 rfl rfl ?_
      refine q_getG (v := 36) eX11_row_132 fl_11_128 tR_0 rfl gR_0_72 ?_
      refine q_iload 7 eX11_row_135 rfl ?_
      refine q_iald eX11_row_137 tR_36 nR_36 ?_
      refine q_iadd eX11_row_138 ?_
      refine q_ltI (fun y1 => ?_)
      refine q_iald eX11_row_139 tR_10 nR_10 ?_
      refine q_if_ne (tgt := 163) eX11_row_140 (by decide) (fun _ => ?_) (fun _ => ?_)
      · refine q_aload_n 0 eX11_row_143 rfl rfl ?_
        refine q_aload_n 0 eX11_row_144 rfl rfl ?_
        refine q_getG (v := 36) eX11_row_145 fl_11_128 tR_0 rfl gR_0_72 ?_
        refine q_iload 7 eX11_row_148 rfl ?_
        refine q_iald eX11_row_150 tR_36 nR_36 ?_
        refine q_iconst eX11_row_151 kiconst_0 ?_
        refine q_iconst eX11_row_152 kiconst_0 ?_
        refine q_callVI (As := [.int (w.1 36 (q_ix x10)), .int 0, .int 0]) (st := []) eX11_row_153 cv_11_336 (kX11_does X l (w.1 36 (q_ix x10)) 0 0 w) tR_0 rfl (by decide) rfl rfl (Nat.le_of_ble_eq_true rfl) (by decide) (fun r2 w3 => ?_)
        refine q_if_ne (tgt := 163) eX11_row_156 (by decide) (fun _ => ?_) (fun _ => ?_)
        · refine q_iconst eX11_row_159 kiconst_1 ?_
          refine q_goto (tgt := 164) eX11_row_160 (by decide) ?_
          exact q_sub [0, 1, 2, 3, 4, 5, 7] rfl (jX11_row_n164 X l rec33 rec49 rec108 hr33 hr49 hr108 x2 x4 x5 x6 x7 x10 1 w3)
        · exact q_sub [0, 1, 2, 3, 4, 5, 7] rfl (jX11_row_n163 X l rec33 rec49 rec108 hr33 hr49 hr108 x2 x4 x5 x6 x7 x10 w3)
      · exact q_sub [0, 1, 2, 3, 4, 5, 7] rfl (jX11_row_n163 X l rec33 rec49 rec108 hr33 hr49 hr108 x2 x4 x5 x6 x7 x10 w)
set_option maxHeartbeats 4000000 in
set_option maxRecDepth 100000 in
theorem jX11_row_l108 (X : q_X) (l : Launch) (rec33 : Int32 → Int32 → Int32 → Int32 → q_W → Option (Int32 × q_W)) (rec49 : Int32 → Int32 → Int32 → Int32 → Int32 → q_W → Option (Int32 × q_W)) (hr33 : ∀ x2 x4 x5 x6 w, q_J X S_R l mX11_row 7 q_tI 33 [(0, .ref 0), (2, .int x2), (4, .int x4), (5, .int x5), (6, .int x6)] [] w (rec33 x2 x4 x5 x6 w)) (hr49 : ∀ x2 x4 x5 x6 x7 w, q_J X S_R l mX11_row 7 q_tI 49 [(0, .ref 0), (2, .int x2), (4, .int x4), (5, .int x5), (6, .int x6), (7, .int x7)] [] w (rec49 x2 x4 x5 x6 x7 w)) : ∀ x2 x4 x5 x6 x7 x9 x10 w, q_J X S_R l mX11_row 7 q_tI 108 [(0, .ref 0), (2, .int x2), (4, .int x4), (5, .int x5), (6, .int x6), (7, .int x7), (9, .int x9), (10, .int x10)] [] w (fX11_row_l108 rec33 rec49 x2 x4 x5 x6 x7 x9 x10 w) := by
  exact q_it_ind (fun rc => ∀ x2 x4 x5 x6 x7 x9 x10 w, q_J X S_R l mX11_row 7 q_tI 108 [(0, .ref 0), (2, .int x2), (4, .int x4), (5, .int x5), (6, .int x6), (7, .int x7), (9, .int x9), (10, .int x10)] [] w (rc x2 x4 x5 x6 x7 x9 x10 w)) _ _ (fun _ _ _ _ _ _ _ _ => q_none) (fun rc hrc => jX11_row_h108 X l rec33 rec49 hr33 hr49 rc hrc) q_N
def fX11_row_h66 (rec33 : Int32 → Int32 → Int32 → Int32 → q_W → Option (Int32 × q_W)) (rec49 : Int32 → Int32 → Int32 → Int32 → Int32 → q_W → Option (Int32 × q_W)) (rec66 : Int32 → Int32 → Int32 → Int32 → Int32 → Int32 → Int32 → q_W → Option (Int32 × q_W)) (x2 : Int32) (x4 : Int32) (x5 : Int32) (x6 : Int32) (x7 : Int32) (x8 : Int32) (x9 : Int32) (w : q_W) : Option (Int32 × q_W) :=
  if x9 < 0 then
    q_b (fX11_begins 60 w) fun r1 w2 =>
    fX11_row_l108 rec33 rec49 x2 x4 x5 x6 x7 1 0 w2
  else
    if x4 = 0 then none else
    if q_inb x9 3 then
    q_lt (q_sI w 36 (q_ix x9) (x8 - x8 / x4 * x4)) fun w3 =>
    if x4 = 0 then none else
    q_lt (x8 / x4) fun y4 =>
    q_lt (x9 + (-1)) fun y5 =>
    rec66 x2 x4 x5 x6 x7 y4 y5 w3
    else none
def fX11_row_l66 (rec33 : Int32 → Int32 → Int32 → Int32 → q_W → Option (Int32 × q_W)) (rec49 : Int32 → Int32 → Int32 → Int32 → Int32 → q_W → Option (Int32 × q_W)) : Int32 → Int32 → Int32 → Int32 → Int32 → Int32 → Int32 → q_W → Option (Int32 × q_W) := q_it q_N (fX11_row_h66 rec33 rec49) (fun _ _ _ _ _ _ _ _ => none)
set_option maxHeartbeats 4000000 in
set_option maxRecDepth 100000 in
theorem jX11_row_h66 (X : q_X) (l : Launch) (rec33 : Int32 → Int32 → Int32 → Int32 → q_W → Option (Int32 × q_W)) (rec49 : Int32 → Int32 → Int32 → Int32 → Int32 → q_W → Option (Int32 × q_W)) (hr33 : ∀ x2 x4 x5 x6 w, q_J X S_R l mX11_row 7 q_tI 33 [(0, .ref 0), (2, .int x2), (4, .int x4), (5, .int x5), (6, .int x6)] [] w (rec33 x2 x4 x5 x6 w)) (hr49 : ∀ x2 x4 x5 x6 x7 w, q_J X S_R l mX11_row 7 q_tI 49 [(0, .ref 0), (2, .int x2), (4, .int x4), (5, .int x5), (6, .int x6), (7, .int x7)] [] w (rec49 x2 x4 x5 x6 x7 w)) (rec66 : Int32 → Int32 → Int32 → Int32 → Int32 → Int32 → Int32 → q_W → Option (Int32 × q_W)) (hr66 : ∀ x2 x4 x5 x6 x7 x8 x9 w, q_J X S_R l mX11_row 7 q_tI 66 [(0, .ref 0), (2, .int x2), (4, .int x4), (5, .int x5), (6, .int x6), (7, .int x7), (8, .int x8), (9, .int x9)] [] w (rec66 x2 x4 x5 x6 x7 x8 x9 w)) : ∀ x2 x4 x5 x6 x7 x8 x9 w, q_J X S_R l mX11_row 7 q_tI 66 [(0, .ref 0), (2, .int x2), (4, .int x4), (5, .int x5), (6, .int x6), (7, .int x7), (8, .int x8), (9, .int x9)] [] w (fX11_row_h66 rec33 rec49 rec66 x2 x4 x5 x6 x7 x8 x9 w) := by
  intro x2 x4 x5 x6 x7 x8 x9 w
  refine q_iload 7 eX11_row_66 rfl ?_
  refine q_if_lt (tgt := 96) eX11_row_68 (by decide) (fun _ => ?_) (fun _ => ?_)
  · refine q_aload_n 0 eX11_row_96 rfl rfl ?_
    refine q_bipush eX11_row_97 kbipush_60 ?_
    refine q_callVV (As := [.int 60]) (st := []) eX11_row_99 cv_11_333 (kX11_begins X l 60 w) tR_0 rfl (by decide) rfl rfl (Nat.le_of_ble_eq_true rfl) (by decide) (fun r1 w2 => ?_)
    refine q_iconst eX11_row_102 kiconst_1 ?_
    refine q_istore (lv' := [(9, .int 1), (0, .ref 0), (2, .int x2), (4, .int x4), (5, .int x5), (6, .int x6), (7, .int x7), (8, .int x8)]) eX11_row_103 (by decide) rfl ?_
    refine q_iconst eX11_row_105 kiconst_0 ?_
    refine q_istore (lv' := [(10, .int 0), (9, .int 1), (0, .ref 0), (2, .int x2), (4, .int x4), (5, .int x5), (6, .int x6), (7, .int x7), (8, .int x8)]) eX11_row_106 (by decide) rfl ?_
    exact q_sub [2, 3, 4, 5, 6, 7, 1, 0] rfl (jX11_row_l108 X l rec33 rec49 hr33 hr49 x2 x4 x5 x6 x7 1 0 w2)
  · refine q_aload_n 0 eX11_row_71 rfl rfl ?_
    refine q_getG (v := 36) eX11_row_72 fl_11_128 tR_0 rfl gR_0_72 ?_
    refine q_iload 7 eX11_row_75 rfl ?_
    refine q_iload 6 eX11_row_77 rfl ?_
    refine q_iload 2 eX11_row_79 rfl ?_
    refine q_irem eX11_row_81 ?_
    refine q_iast eX11_row_82 tR_36 nR_36 ?_
    refine q_ltW (fun w3 => ?_)
    refine q_iload 6 eX11_row_83 rfl ?_
    refine q_iload 2 eX11_row_85 rfl ?_
    refine q_idiv eX11_row_87 ?_
    refine q_ltI (fun y4 => ?_)
    refine q_istore (lv' := [(8, .int y4), (0, .ref 0), (2, .int x2), (4, .int x4), (5, .int x5), (6, .int x6), (7, .int x7), (9, .int x9)]) eX11_row_88 (by decide) rfl ?_
    refine q_ltE (fun y5 hy5 => ?_)
    refine q_iinc (v := y5) (lv' := [(9, .int y5), (8, .int y4), (0, .ref 0), (2, .int x2), (4, .int x4), (5, .int x5), (6, .int x6), (7, .int x7)]) 7 eX11_row_90 rfl hy5 (by decide) rfl ?_
    refine q_goto (tgt := 66) eX11_row_93 (by decide) ?_
    exact q_sub [2, 3, 4, 5, 6, 7, 1, 0] rfl (hr66 x2 x4 x5 x6 x7 y4 y5 w3)
set_option maxHeartbeats 4000000 in
set_option maxRecDepth 100000 in
theorem jX11_row_l66 (X : q_X) (l : Launch) (rec33 : Int32 → Int32 → Int32 → Int32 → q_W → Option (Int32 × q_W)) (rec49 : Int32 → Int32 → Int32 → Int32 → Int32 → q_W → Option (Int32 × q_W)) (hr33 : ∀ x2 x4 x5 x6 w, q_J X S_R l mX11_row 7 q_tI 33 [(0, .ref 0), (2, .int x2), (4, .int x4), (5, .int x5), (6, .int x6)] [] w (rec33 x2 x4 x5 x6 w)) (hr49 : ∀ x2 x4 x5 x6 x7 w, q_J X S_R l mX11_row 7 q_tI 49 [(0, .ref 0), (2, .int x2), (4, .int x4), (5, .int x5), (6, .int x6), (7, .int x7)] [] w (rec49 x2 x4 x5 x6 x7 w)) : ∀ x2 x4 x5 x6 x7 x8 x9 w, q_J X S_R l mX11_row 7 q_tI 66 [(0, .ref 0), (2, .int x2), (4, .int x4), (5, .int x5), (6, .int x6), (7, .int x7), (8, .int x8), (9, .int x9)] [] w (fX11_row_l66 rec33 rec49 x2 x4 x5 x6 x7 x8 x9 w) := by
  exact q_it_ind (fun rc => ∀ x2 x4 x5 x6 x7 x8 x9 w, q_J X S_R l mX11_row 7 q_tI 66 [(0, .ref 0), (2, .int x2), (4, .int x4), (5, .int x5), (6, .int x6), (7, .int x7), (8, .int x8), (9, .int x9)] [] w (rc x2 x4 x5 x6 x7 x8 x9 w)) _ _ (fun _ _ _ _ _ _ _ _ => q_none) (fun rc hrc => jX11_row_h66 X l rec33 rec49 hr33 hr49 rc hrc) q_N
def fX11_row_h49 (rec33 : Int32 → Int32 → Int32 → Int32 → q_W → Option (Int32 × q_W)) (rec49 : Int32 → Int32 → Int32 → Int32 → Int32 → q_W → Option (Int32 × q_W)) (x2 : Int32) (x4 : Int32) (x5 : Int32) (x6 : Int32) (x7 : Int32) (w : q_W) : Option (Int32 × q_W) :=
  if x5 ≤ x7 then
    q_lt (x6 + 1) fun y1 =>
    rec33 x2 x4 x5 y1 w
  else
    q_lt (x6 - 1) fun y2 =>
    fX11_row_l66 rec33 rec49 x2 x4 x5 x6 x7 x7 y2 w
def fX11_row_l49 (rec33 : Int32 → Int32 → Int32 → Int32 → q_W → Option (Int32 × q_W)) : Int32 → Int32 → Int32 → Int32 → Int32 → q_W → Option (Int32 × q_W) := q_it q_N (fX11_row_h49 rec33) (fun _ _ _ _ _ _ => none)
set_option maxHeartbeats 4000000 in
set_option maxRecDepth 100000 in
theorem jX11_row_h49 (X : q_X) (l : Launch) (rec33 : Int32 → Int32 → Int32 → Int32 → q_W → Option (Int32 × q_W)) (hr33 : ∀ x2 x4 x5 x6 w, q_J X S_R l mX11_row 7 q_tI 33 [(0, .ref 0), (2, .int x2), (4, .int x4), (5, .int x5), (6, .int x6)] [] w (rec33 x2 x4 x5 x6 w)) (rec49 : Int32 → Int32 → Int32 → Int32 → Int32 → q_W → Option (Int32 × q_W)) (hr49 : ∀ x2 x4 x5 x6 x7 w, q_J X S_R l mX11_row 7 q_tI 49 [(0, .ref 0), (2, .int x2), (4, .int x4), (5, .int x5), (6, .int x6), (7, .int x7)] [] w (rec49 x2 x4 x5 x6 x7 w)) : ∀ x2 x4 x5 x6 x7 w, q_J X S_R l mX11_row 7 q_tI 49 [(0, .ref 0), (2, .int x2), (4, .int x4), (5, .int x5), (6, .int x6), (7, .int x7)] [] w (fX11_row_h49 rec33 rec49 x2 x4 x5 x6 x7 w) := by
  intro x2 x4 x5 x6 x7 w
  refine q_iload 5 eX11_row_49 rfl ?_
  refine q_iload 3 eX11_row_51 rfl ?_
  refine q_icmp_ge (tgt := 233) eX11_row_53 (by decide) (fun _ => ?_) (fun _ => ?_)
  · refine q_ltE (fun y1 hy1 => ?_)
    refine q_iinc (v := y1) (lv' := [(6, .int y1), (0, .ref 0), (2, .int x2), (4, .int x4), (5, .int x5), (7, .int x7)]) 4 eX11_row_233 rfl hy1 (by decide) rfl ?_
    refine q_goto (tgt := 33) eX11_row_236 (by decide) ?_
    exact q_sub [1, 2, 3, 4, 0] rfl (hr33 x2 x4 x5 y1 w)
  · refine q_iload 5 eX11_row_56 rfl ?_
    refine q_istore (lv' := [(8, .int x7), (0, .ref 0), (2, .int x2), (4, .int x4), (5, .int x5), (6, .int x6), (7, .int x7)]) eX11_row_58 (by decide) rfl ?_
    refine q_iload 5 eX11_row_60 rfl ?_
    refine q_iconst eX11_row_62 kiconst_1 ?_
    refine q_isub eX11_row_63 ?_
    refine q_ltI (fun y2 => ?_)
    refine q_istore (lv' := [(9, .int y2), (8, .int x7), (0, .ref 0), (2, .int x2), (4, .int x4), (5, .int x5), (6, .int x6), (7, .int x7)]) eX11_row_64 (by decide) rfl ?_
    exact q_sub [2, 3, 4, 5, 6, 7, 1, 0] rfl (jX11_row_l66 X l rec33 rec49 hr33 hr49 x2 x4 x5 x6 x7 x7 y2 w)
set_option maxHeartbeats 4000000 in
set_option maxRecDepth 100000 in
theorem jX11_row_l49 (X : q_X) (l : Launch) (rec33 : Int32 → Int32 → Int32 → Int32 → q_W → Option (Int32 × q_W)) (hr33 : ∀ x2 x4 x5 x6 w, q_J X S_R l mX11_row 7 q_tI 33 [(0, .ref 0), (2, .int x2), (4, .int x4), (5, .int x5), (6, .int x6)] [] w (rec33 x2 x4 x5 x6 w)) : ∀ x2 x4 x5 x6 x7 w, q_J X S_R l mX11_row 7 q_tI 49 [(0, .ref 0), (2, .int x2), (4, .int x4), (5, .int x5), (6, .int x6), (7, .int x7)] [] w (fX11_row_l49 rec33 x2 x4 x5 x6 x7 w) := by
  exact q_it_ind (fun rc => ∀ x2 x4 x5 x6 x7 w, q_J X S_R l mX11_row 7 q_tI 49 [(0, .ref 0), (2, .int x2), (4, .int x4), (5, .int x5), (6, .int x6), (7, .int x7)] [] w (rc x2 x4 x5 x6 x7 w)) _ _ (fun _ _ _ _ _ _ => q_none) (fun rc hrc => jX11_row_h49 X l rec33 hr33 rc hrc) q_N
def fX11_row_h33 (rec33 : Int32 → Int32 → Int32 → Int32 → q_W → Option (Int32 × q_W)) (x2 : Int32) (x4 : Int32) (x5 : Int32) (x6 : Int32) (w : q_W) : Option (Int32 × q_W) :=
  if 4 ≤ x6 then
    some ((-2), w)
  else
    q_lt (x5 * x4) fun y1 =>
    fX11_row_l49 rec33 x2 x4 y1 x6 0 w
def fX11_row_l33 : Int32 → Int32 → Int32 → Int32 → q_W → Option (Int32 × q_W) := q_it q_N (fX11_row_h33) (fun _ _ _ _ _ => none)
set_option maxHeartbeats 4000000 in
set_option maxRecDepth 100000 in
theorem jX11_row_h33 (X : q_X) (l : Launch) (rec33 : Int32 → Int32 → Int32 → Int32 → q_W → Option (Int32 × q_W)) (hr33 : ∀ x2 x4 x5 x6 w, q_J X S_R l mX11_row 7 q_tI 33 [(0, .ref 0), (2, .int x2), (4, .int x4), (5, .int x5), (6, .int x6)] [] w (rec33 x2 x4 x5 x6 w)) : ∀ x2 x4 x5 x6 w, q_J X S_R l mX11_row 7 q_tI 33 [(0, .ref 0), (2, .int x2), (4, .int x4), (5, .int x5), (6, .int x6)] [] w (fX11_row_h33 rec33 x2 x4 x5 x6 w) := by
  intro x2 x4 x5 x6 w
  refine q_iload 4 eX11_row_33 rfl ?_
  refine q_iconst eX11_row_35 kiconst_4 ?_
  refine q_icmp_ge (tgt := 239) eX11_row_36 (by decide) (fun _ => ?_) (fun _ => ?_)
  · refine q_bipush eX11_row_239 kbipush_m2 ?_
    exact q_ireturn eX11_row_241 rfl
  · refine q_iload 3 eX11_row_39 rfl ?_
    refine q_iload 2 eX11_row_41 rfl ?_
    refine q_imul eX11_row_43 ?_
    refine q_ltI (fun y1 => ?_)
    refine q_istore (lv' := [(5, .int y1), (0, .ref 0), (2, .int x2), (4, .int x4), (6, .int x6)]) eX11_row_44 (by decide) rfl ?_
    refine q_iconst eX11_row_46 kiconst_0 ?_
    refine q_istore (lv' := [(7, .int 0), (5, .int y1), (0, .ref 0), (2, .int x2), (4, .int x4), (6, .int x6)]) eX11_row_47 (by decide) rfl ?_
    exact q_sub [2, 3, 4, 1, 5, 0] rfl (jX11_row_l49 X l rec33 hr33 x2 x4 y1 x6 0 w)
set_option maxHeartbeats 4000000 in
set_option maxRecDepth 100000 in
theorem jX11_row_l33 (X : q_X) (l : Launch) : ∀ x2 x4 x5 x6 w, q_J X S_R l mX11_row 7 q_tI 33 [(0, .ref 0), (2, .int x2), (4, .int x4), (5, .int x5), (6, .int x6)] [] w (fX11_row_l33 x2 x4 x5 x6 w) := by
  exact q_it_ind (fun rc => ∀ x2 x4 x5 x6 w, q_J X S_R l mX11_row 7 q_tI 33 [(0, .ref 0), (2, .int x2), (4, .int x4), (5, .int x5), (6, .int x6)] [] w (rc x2 x4 x5 x6 w)) _ _ (fun _ _ _ _ _ => q_none) (fun rc hrc => jX11_row_h33 X l rc hrc) q_N
def fX11_row (a1 : Int32) (a2 : Int32) (a3 : Int32) (w : q_W) : Option (Int32 × q_W) :=
  if a2 < 0 then
    some ((-1), w)
  else
    q_b (fX11_isSheet a1 a3 0 w) fun r1 w2 =>
    if r1 = 0 then
      some ((-1), w2)
    else
      q_lt (w2.1 0 18) fun y3 =>
      if q_inb y3 2 then
      q_lt (w2.1 8 (q_ix y3)) fun y4 =>
      fX11_row_l33 a2 y4 1 1 w2
      else none
set_option maxHeartbeats 4000000 in
set_option maxRecDepth 100000 in
theorem kX11_row (X : q_X) (l : Launch) (a1 : Int32) (a2 : Int32) (a3 : Int32) (w : q_W) : q_Ct X S_R l mX11_row 7 q_tI [.ref 0, .int a1, .int a2, .int a3] w (fX11_row a1 a2 a3 w) := by
  refine q_intro (lv := [(0, .ref 0), (1, .int a1), (2, .int a2), (3, .int a3)]) (by decide +kernel) rfl (Nat.le_of_ble_eq_true rfl) rfl ?_
  refine q_iload_n 2 eX11_row_0 rfl rfl ?_
  refine q_if_lt (tgt := 14) eX11_row_1 (by decide) (fun _ => ?_) (fun _ => ?_)
  · refine q_iconst eX11_row_14 kiconst_m1 ?_
    exact q_ireturn eX11_row_15 rfl
  · refine q_aload_n 0 eX11_row_4 rfl rfl ?_
    refine q_iload_n 1 eX11_row_5 rfl rfl ?_
    refine q_iload_n 3 eX11_row_6 rfl rfl ?_
    refine q_iconst eX11_row_7 kiconst_0 ?_
    refine q_callVI (As := [.int a1, .int a3, .int 0]) (st := []) eX11_row_8 cv_11_403 (kX11_isSheet X l a1 a3 0 w) tR_0 rfl (by decide) rfl rfl (Nat.le_of_ble_eq_true rfl) (by decide) (fun r1 w2 => ?_)
    refine q_if_ne (tgt := 16) eX11_row_11 (by decide) (fun _ => ?_) (fun _ => ?_)
    · refine q_iconst eX11_row_14 kiconst_m1 ?_
      exact q_ireturn eX11_row_15 rfl
    · refine q_aload_n 0 eX11_row_16 rfl rfl ?_
      refine q_getG (v := 8) eX11_row_17 fl_11_40 tR_0 rfl gR_0_20 ?_
      refine q_aload_n 0 eX11_row_20 rfl rfl ?_
      refine q_getI eX11_row_21 fl_11_206 tR_0 rfl ?_
      refine q_ltI (fun y3 => ?_)
      refine q_iald eX11_row_24 tR_8 nR_8 ?_
      refine q_ltI (fun y4 => ?_)
      refine q_istore (lv' := [(4, .int y4), (0, .ref 0), (1, .int a1), (2, .int a2), (3, .int a3)]) eX11_row_25 (by decide) rfl ?_
      refine q_iconst eX11_row_27 kiconst_1 ?_
      refine q_istore (lv' := [(5, .int 1), (4, .int y4), (0, .ref 0), (1, .int a1), (2, .int a2), (3, .int a3)]) eX11_row_28 (by decide) rfl ?_
      refine q_iconst eX11_row_30 kiconst_1 ?_
      refine q_istore (lv' := [(6, .int 1), (5, .int 1), (4, .int y4), (0, .ref 0), (1, .int a1), (2, .int a2), (3, .int a3)]) eX11_row_31 (by decide) rfl ?_
      exact q_sub [3, 5, 2, 1, 0] rfl (jX11_row_l33 X l a2 y4 1 1 w2)
def fX11_rowed (a1 : Int32) (w : q_W) : Option (Int32 × q_W) :=
  if a1 < 0 then
    some ((-1), w)
  else
    if (w.1 0 70) ≤ a1 then
      some ((-1), w)
    else
      if q_inb a1 3 then
      some ((w.1 35 (q_ix a1)), w)
      else none
set_option maxHeartbeats 4000000 in
set_option maxRecDepth 100000 in
theorem kX11_rowed (X : q_X) (l : Launch) (a1 : Int32) (w : q_W) : q_Ct X S_R l mX11_rowed 0 q_tI [.ref 0, .int a1] w (fX11_rowed a1 w) := by
  refine q_intro (lv := [(0, .ref 0), (1, .int a1)]) (by decide +kernel) rfl (Nat.le_of_ble_eq_true rfl) rfl ?_
  refine q_iload_n 1 eX11_rowed_0 rfl rfl ?_
  refine q_if_lt (tgt := 21) eX11_rowed_1 (by decide) (fun _ => ?_) (fun _ => ?_)
  · refine q_iconst eX11_rowed_21 kiconst_m1 ?_
    exact q_ireturn eX11_rowed_22 rfl
  · refine q_iload_n 1 eX11_rowed_4 rfl rfl ?_
    refine q_aload_n 0 eX11_rowed_5 rfl rfl ?_
    refine q_getI eX11_rowed_6 fl_11_437 tR_0 rfl ?_
    refine q_icmp_ge (tgt := 21) eX11_rowed_9 (by decide) (fun _ => ?_) (fun _ => ?_)
    · refine q_iconst eX11_rowed_21 kiconst_m1 ?_
      exact q_ireturn eX11_rowed_22 rfl
    · refine q_aload_n 0 eX11_rowed_12 rfl rfl ?_
      refine q_getG (v := 35) eX11_rowed_13 fl_11_125 tR_0 rfl gR_0_71 ?_
      refine q_iload_n 1 eX11_rowed_16 rfl rfl ?_
      refine q_iald eX11_rowed_17 tR_35 nR_35 ?_
      refine q_goto (tgt := 22) eX11_rowed_18 (by decide) ?_
      exact q_ireturn eX11_rowed_22 rfl
def fX11_count (a1 : Int32) (w : q_W) : Option (Int32 × q_W) :=
  if a1 = 0 then
    q_lt (w.1 0 18) fun y2 =>
    if q_inb y2 2 then
    some ((w.1 8 (q_ix y2)), w)
    else none
  else if a1 = 1 then
    some ((w.1 0 50), w)
  else if a1 = 2 then
    q_b (fX11_floats (w.1 0 50) (-1) w) fun r5 w6 =>
    if r5 = 0 then
      some ((-1), w6)
    else
      some ((w6.1 0 55), w6)
  else if a1 = 3 then
    some ((w.1 0 2), w)
  else some ((-1), w)
set_option maxHeartbeats 4000000 in
set_option maxRecDepth 100000 in
theorem kX11_count (X : q_X) (l : Launch) (a1 : Int32) (w : q_W) : q_Ct X S_R l mX11_count 2 q_tI [.ref 0, .int a1] w (fX11_count a1 w) := by
  refine q_intro (lv := [(0, .ref 0), (1, .int a1)]) (by decide +kernel) rfl (Nat.le_of_ble_eq_true rfl) rfl ?_
  refine q_iload_n 1 eX11_count_0 rfl rfl ?_
  refine q_ite (fun c1 => ?_) (fun c1 => ?_)
  · refine q_tabIn (off := 31) (tgt := 32) eX11_count_1 (by rw [c1]; decide) (by rw [c1]; decide) (by rw [c1]; rfl) (by decide) ?_
    refine q_aload_n 0 eX11_count_32 rfl rfl ?_
    refine q_getG (v := 8) eX11_count_33 fl_11_40 tR_0 rfl gR_0_20 ?_
    refine q_aload_n 0 eX11_count_36 rfl rfl ?_
    refine q_getI eX11_count_37 fl_11_206 tR_0 rfl ?_
    refine q_ltI (fun y2 => ?_)
    refine q_iald eX11_count_40 tR_8 nR_8 ?_
    exact q_ireturn eX11_count_41 rfl
  refine q_ite (fun c3 => ?_) (fun c3 => ?_)
  · refine q_tabIn (off := 41) (tgt := 42) eX11_count_1 (by rw [c3]; decide) (by rw [c3]; decide) (by rw [c3]; rfl) (by decide) ?_
    refine q_aload_n 0 eX11_count_42 rfl rfl ?_
    refine q_getI eX11_count_43 fl_11_320 tR_0 rfl ?_
    exact q_ireturn eX11_count_46 rfl
  refine q_ite (fun c4 => ?_) (fun c4 => ?_)
  · refine q_tabIn (off := 46) (tgt := 47) eX11_count_1 (by rw [c4]; decide) (by rw [c4]; decide) (by rw [c4]; rfl) (by decide) ?_
    refine q_aload_n 0 eX11_count_47 rfl rfl ?_
    refine q_aload_n 0 eX11_count_48 rfl rfl ?_
    refine q_getI eX11_count_49 fl_11_320 tR_0 rfl ?_
    refine q_iconst eX11_count_52 kiconst_m1 ?_
    refine q_callVI (As := [.int (w.1 0 50), .int (-1)]) (st := []) eX11_count_53 cv_11_388 (kX11_floats X l (w.1 0 50) (-1) w) tR_0 rfl (by decide) rfl rfl (Nat.le_of_ble_eq_true rfl) (by decide) (fun r5 w6 => ?_)
    refine q_istore_n (lv' := [(2, .int r5), (0, .ref 0), (1, .int a1)]) eX11_count_56 rfl (by decide) rfl ?_
    refine q_iload_n 0 eX11_count_57 rfl rfl ?_
    refine q_if_eq (tgt := 68) eX11_count_58 (by decide) (fun _ => ?_) (fun _ => ?_)
    · refine q_iconst eX11_count_68 kiconst_m1 ?_
      exact q_ireturn eX11_count_69 rfl
    · refine q_aload_n 1 eX11_count_61 rfl rfl ?_
      refine q_getI eX11_count_62 fl_11_352 tR_0 rfl ?_
      refine q_goto (tgt := 69) eX11_count_65 (by decide) ?_
      exact q_ireturn eX11_count_69 rfl
  refine q_ite (fun c7 => ?_) (fun c7 => ?_)
  · refine q_tabIn (off := 69) (tgt := 70) eX11_count_1 (by rw [c7]; decide) (by rw [c7]; decide) (by rw [c7]; rfl) (by decide) ?_
    refine q_aload_n 0 eX11_count_70 rfl rfl ?_
    refine q_getI eX11_count_71 fl_11_135 tR_0 rfl ?_
    exact q_ireturn eX11_count_74 rfl
  refine q_tabOut (tgt := 75) eX11_count_1 (by have zc1 := lv_neT (a := 0) c1 rfl; have zc3 := lv_neT (a := 1) c3 rfl; have zc4 := lv_neT (a := 2) c4 rfl; have zc7 := lv_neT (a := 3) c7 rfl; omega) (by decide) ?_
  refine q_iconst eX11_count_75 kiconst_m1 ?_
  exact q_ireturn eX11_count_76 rfl
