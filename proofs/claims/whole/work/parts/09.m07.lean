/-! methods, printed by program: X10_area X10_pieces X10_largest X10_takeBoth X10_edge X10_match X10_unlike X10_made X10_off X10_row X10_rowed X10_count X11_put X11_feed X11_back X11_at X11_isDigit X11_isLetter X11_more X11_word X11_token X11_sign X11_cut -/
def fX10_area_n16 (x1 : Int32) (x2 : Int32) (x3 : Int32) (s0 : Int32) (w : q_W) : Option (Int32 × q_W) :=
  if s0 = 0 then
    some ((-1), w)
  else
    q_b (fX10_takeSheet 14 x1 x3 w) fun r1 w2 =>
    if r1 = 0 then
      some ((-1), w2)
    else
      q_b (fX8_areaOf 14 x2 w2) fun r3 w4 =>
      some (r3, w4)
set_option maxHeartbeats 4000000 in
set_option maxRecDepth 100000 in
theorem jX10_area_n16 (X : q_X) (l : Launch) (x1 : Int32) (x2 : Int32) (x3 : Int32) (s0 : Int32) (w : q_W) : q_J X S_C l mX10_area 6 q_tI 16 [(0, .ref 0), (1, .int x1), (2, .int x2), (3, .int x3)] [.int s0] w (fX10_area_n16 x1 x2 x3 s0 w) := by
  refine q_istore (lv' := [(4, .int s0), (0, .ref 0), (1, .int x1), (2, .int x2), (3, .int x3)]) eX10_area_16 (by decide) rfl ?_
  refine q_iload 0 eX10_area_18 rfl ?_
  refine q_if_eq (tgt := 47) eX10_area_20 (by decide) (fun _ => ?_) (fun _ => ?_)
  · refine q_iconst eX10_area_47 kiconst_m1 ?_
    exact q_ireturn eX10_area_48 rfl
  · refine q_aload_n 1 eX10_area_23 rfl rfl ?_
    refine q_aload_n 1 eX10_area_24 rfl rfl ?_
    refine q_getG (v := 14) eX10_area_25 fl_10_42 tC_0 rfl gC_0_4 ?_
    refine q_iload_n 2 eX10_area_28 rfl rfl ?_
    refine q_iload_n 4 eX10_area_29 rfl rfl ?_
    refine q_callVI (As := [.ref 14, .int x1, .int x3]) (st := []) eX10_area_30 cv_10_210 (kX10_takeSheet X l 14 x1 x3 w) tC_0 rfl (by decide) rfl rfl (Nat.le_of_ble_eq_true rfl) (by decide) (fun r1 w2 => ?_)
    refine q_if_eq (tgt := 47) eX10_area_33 (by decide) (fun _ => ?_) (fun _ => ?_)
    · refine q_iconst eX10_area_47 kiconst_m1 ?_
      exact q_ireturn eX10_area_48 rfl
    · refine q_aload_n 1 eX10_area_36 rfl rfl ?_
      refine q_getG (v := 14) eX10_area_37 fl_10_42 tC_0 rfl gC_0_4 ?_
      refine q_iload_n 3 eX10_area_40 rfl rfl ?_
      refine q_callVI (As := [.int x2]) (st := []) eX10_area_41 cv_10_215 (kX8_areaOf X l 14 x2 w2) tC_14 rfl (by decide) rfl rfl (Nat.le_of_ble_eq_true rfl) (by decide) (fun r3 w4 => ?_)
      refine q_goto (tgt := 48) eX10_area_44 (by decide) ?_
      exact q_ireturn eX10_area_48 rfl
def fX10_area_n15 (x1 : Int32) (x2 : Int32) (x3 : Int32) (w : q_W) : Option (Int32 × q_W) :=
  fX10_area_n16 x1 x2 x3 0 w
set_option maxHeartbeats 4000000 in
set_option maxRecDepth 100000 in
theorem jX10_area_n15 (X : q_X) (l : Launch) (x1 : Int32) (x2 : Int32) (x3 : Int32) (w : q_W) : q_J X S_C l mX10_area 6 q_tI 15 [(0, .ref 0), (1, .int x1), (2, .int x2), (3, .int x3)] [] w (fX10_area_n15 x1 x2 x3 w) := by
  refine q_iconst eX10_area_15 kiconst_0 ?_
  exact q_sub [0, 1, 2, 3] rfl (jX10_area_n16 X l x1 x2 x3 0 w)
def fX10_area (a1 : Int32) (a2 : Int32) (a3 : Int32) (w : q_W) : Option (Int32 × q_W) :=
  if a2 < (-1) then
    fX10_area_n15 a1 a2 a3 w
  else
    if 7 < a2 then
      fX10_area_n15 a1 a2 a3 w
    else
      fX10_area_n16 a1 a2 a3 1 w
set_option maxHeartbeats 4000000 in
set_option maxRecDepth 100000 in
theorem kX10_area (X : q_X) (l : Launch) (a1 : Int32) (a2 : Int32) (a3 : Int32) (w : q_W) : q_Ct X S_C l mX10_area 6 q_tI [.ref 0, .int a1, .int a2, .int a3] w (fX10_area a1 a2 a3 w) := by
  refine q_intro (lv := [(0, .ref 0), (1, .int a1), (2, .int a2), (3, .int a3)]) (by decide +kernel) rfl (Nat.le_of_ble_eq_true rfl) rfl ?_
  refine q_iload_n 2 eX10_area_0 rfl rfl ?_
  refine q_iconst eX10_area_1 kiconst_m1 ?_
  refine q_icmp_lt (tgt := 15) eX10_area_2 (by decide) (fun _ => ?_) (fun _ => ?_)
  · exact q_sub [0, 1, 2, 3] rfl (jX10_area_n15 X l a1 a2 a3 w)
  · refine q_iload_n 2 eX10_area_5 rfl rfl ?_
    refine q_bipush eX10_area_6 kbipush_7 ?_
    refine q_icmp_gt (tgt := 15) eX10_area_8 (by decide) (fun _ => ?_) (fun _ => ?_)
    · exact q_sub [0, 1, 2, 3] rfl (jX10_area_n15 X l a1 a2 a3 w)
    · refine q_iconst eX10_area_11 kiconst_1 ?_
      refine q_goto (tgt := 16) eX10_area_12 (by decide) ?_
      exact q_sub [0, 1, 2, 3] rfl (jX10_area_n16 X l a1 a2 a3 1 w)
def fX10_pieces (a1 : Int32) (a2 : Int32) (w : q_W) : Option (Int32 × q_W) :=
  q_b (fX10_takeSheet 14 a1 a2 w) fun r1 w2 =>
  if r1 = 0 then
    some ((-1), w2)
  else
    q_b (fX8_countPieces 14 w2) fun r3 w4 =>
    some (r3, w4)
set_option maxHeartbeats 4000000 in
set_option maxRecDepth 100000 in
theorem kX10_pieces (X : q_X) (l : Launch) (a1 : Int32) (a2 : Int32) (w : q_W) : q_Ct X S_C l mX10_pieces 6 q_tI [.ref 0, .int a1, .int a2] w (fX10_pieces a1 a2 w) := by
  refine q_intro (lv := [(0, .ref 0), (1, .int a1), (2, .int a2)]) (by decide +kernel) rfl (Nat.le_of_ble_eq_true rfl) rfl ?_
  refine q_aload_n 0 eX10_pieces_0 rfl rfl ?_
  refine q_aload_n 0 eX10_pieces_1 rfl rfl ?_
  refine q_getG (v := 14) eX10_pieces_2 fl_10_42 tC_0 rfl gC_0_4 ?_
  refine q_iload_n 1 eX10_pieces_5 rfl rfl ?_
  refine q_iload_n 2 eX10_pieces_6 rfl rfl ?_
  refine q_callVI (As := [.ref 14, .int a1, .int a2]) (st := []) eX10_pieces_7 cv_10_210 (kX10_takeSheet X l 14 a1 a2 w) tC_0 rfl (by decide) rfl rfl (Nat.le_of_ble_eq_true rfl) (by decide) (fun r1 w2 => ?_)
  refine q_if_eq (tgt := 23) eX10_pieces_10 (by decide) (fun _ => ?_) (fun _ => ?_)
  · refine q_iconst eX10_pieces_23 kiconst_m1 ?_
    exact q_ireturn eX10_pieces_24 rfl
  · refine q_aload_n 0 eX10_pieces_13 rfl rfl ?_
    refine q_getG (v := 14) eX10_pieces_14 fl_10_42 tC_0 rfl gC_0_4 ?_
    refine q_callVI (As := []) (st := []) eX10_pieces_17 cv_10_218 (kX8_countPieces X l 14 w2) tC_14 rfl (by decide) rfl rfl (Nat.le_of_ble_eq_true rfl) (by decide) (fun r3 w4 => ?_)
    refine q_goto (tgt := 24) eX10_pieces_20 (by decide) ?_
    exact q_ireturn eX10_pieces_24 rfl
def fX10_largest (a1 : Int32) (a2 : Int32) (w : q_W) : Option (Int32 × q_W) :=
  q_b (fX10_takeSheet 14 a1 a2 w) fun r1 w2 =>
  if r1 = 0 then
    some ((-1), w2)
  else
    q_b (fX8_largestPiece 14 w2) fun r3 w4 =>
    some (r3, w4)
set_option maxHeartbeats 4000000 in
set_option maxRecDepth 100000 in
theorem kX10_largest (X : q_X) (l : Launch) (a1 : Int32) (a2 : Int32) (w : q_W) : q_Ct X S_C l mX10_largest 6 q_tI [.ref 0, .int a1, .int a2] w (fX10_largest a1 a2 w) := by
  refine q_intro (lv := [(0, .ref 0), (1, .int a1), (2, .int a2)]) (by decide +kernel) rfl (Nat.le_of_ble_eq_true rfl) rfl ?_
  refine q_aload_n 0 eX10_largest_0 rfl rfl ?_
  refine q_aload_n 0 eX10_largest_1 rfl rfl ?_
  refine q_getG (v := 14) eX10_largest_2 fl_10_42 tC_0 rfl gC_0_4 ?_
  refine q_iload_n 1 eX10_largest_5 rfl rfl ?_
  refine q_iload_n 2 eX10_largest_6 rfl rfl ?_
  refine q_callVI (As := [.ref 14, .int a1, .int a2]) (st := []) eX10_largest_7 cv_10_210 (kX10_takeSheet X l 14 a1 a2 w) tC_0 rfl (by decide) rfl rfl (Nat.le_of_ble_eq_true rfl) (by decide) (fun r1 w2 => ?_)
  refine q_if_eq (tgt := 23) eX10_largest_10 (by decide) (fun _ => ?_) (fun _ => ?_)
  · refine q_iconst eX10_largest_23 kiconst_m1 ?_
    exact q_ireturn eX10_largest_24 rfl
  · refine q_aload_n 0 eX10_largest_13 rfl rfl ?_
    refine q_getG (v := 14) eX10_largest_14 fl_10_42 tC_0 rfl gC_0_4 ?_
    refine q_callVI (As := []) (st := []) eX10_largest_17 cv_10_221 (kX8_largestPiece X l 14 w2) tC_14 rfl (by decide) rfl rfl (Nat.le_of_ble_eq_true rfl) (by decide) (fun r3 w4 => ?_)
    refine q_goto (tgt := 24) eX10_largest_20 (by decide) ?_
    exact q_ireturn eX10_largest_24 rfl
def fX10_takeBoth (a1 : Int32) (a2 : Int32) (a3 : Int32) (w : q_W) : Option (Int32 × q_W) :=
  q_b (fX10_takeSheet 14 a1 a3 w) fun r1 w2 =>
  if r1 = 0 then
    some (0, w2)
  else
    q_b (fX10_takeSheet 18 a2 a3 w2) fun r3 w4 =>
    if r3 = 0 then
      some (0, w4)
    else
      some (1, w4)
set_option maxHeartbeats 4000000 in
set_option maxRecDepth 100000 in
theorem kX10_takeBoth (X : q_X) (l : Launch) (a1 : Int32) (a2 : Int32) (a3 : Int32) (w : q_W) : q_Ct X S_C l mX10_takeBoth 6 q_tI [.ref 0, .int a1, .int a2, .int a3] w (fX10_takeBoth a1 a2 a3 w) := by
  refine q_intro (lv := [(0, .ref 0), (1, .int a1), (2, .int a2), (3, .int a3)]) (by decide +kernel) rfl (Nat.le_of_ble_eq_true rfl) rfl ?_
  refine q_aload_n 0 eX10_takeBoth_0 rfl rfl ?_
  refine q_aload_n 0 eX10_takeBoth_1 rfl rfl ?_
  refine q_getG (v := 14) eX10_takeBoth_2 fl_10_42 tC_0 rfl gC_0_4 ?_
  refine q_iload_n 1 eX10_takeBoth_5 rfl rfl ?_
  refine q_iload_n 3 eX10_takeBoth_6 rfl rfl ?_
  refine q_callVI (As := [.ref 14, .int a1, .int a3]) (st := []) eX10_takeBoth_7 cv_10_210 (kX10_takeSheet X l 14 a1 a3 w) tC_0 rfl (by decide) rfl rfl (Nat.le_of_ble_eq_true rfl) (by decide) (fun r1 w2 => ?_)
  refine q_if_eq (tgt := 30) eX10_takeBoth_10 (by decide) (fun _ => ?_) (fun _ => ?_)
  · refine q_iconst eX10_takeBoth_30 kiconst_0 ?_
    exact q_zret eX10_takeBoth_31 rfl rfl
  · refine q_aload_n 0 eX10_takeBoth_13 rfl rfl ?_
    refine q_aload_n 0 eX10_takeBoth_14 rfl rfl ?_
    refine q_getG (v := 18) eX10_takeBoth_15 fl_10_46 tC_0 rfl gC_0_5 ?_
    refine q_iload_n 2 eX10_takeBoth_18 rfl rfl ?_
    refine q_iload_n 3 eX10_takeBoth_19 rfl rfl ?_
    refine q_callVI (As := [.ref 18, .int a2, .int a3]) (st := []) eX10_takeBoth_20 cv_10_210 (kX10_takeSheet X l 18 a2 a3 w2) tC_0 rfl (by decide) rfl rfl (Nat.le_of_ble_eq_true rfl) (by decide) (fun r3 w4 => ?_)
    refine q_if_eq (tgt := 30) eX10_takeBoth_23 (by decide) (fun _ => ?_) (fun _ => ?_)
    · refine q_iconst eX10_takeBoth_30 kiconst_0 ?_
      exact q_zret eX10_takeBoth_31 rfl rfl
    · refine q_iconst eX10_takeBoth_26 kiconst_1 ?_
      refine q_goto (tgt := 31) eX10_takeBoth_27 (by decide) ?_
      exact q_zret eX10_takeBoth_31 rfl rfl
def fX10_edge_n17 (x1 : Int32) (x2 : Int32) (x3 : Int32) (x4 : Int32) (s0 : Int32) (w : q_W) : Option (Int32 × q_W) :=
  if s0 = 0 then
    some ((-1), w)
  else
    q_b (fX10_takeBoth x1 x2 x4 w) fun r1 w2 =>
    if r1 = 0 then
      some ((-1), w2)
    else
      q_b (fX8_edgesUnlike 14 18 x3 w2) fun r3 w4 =>
      some (r3, w4)
set_option maxHeartbeats 4000000 in
set_option maxRecDepth 100000 in
theorem jX10_edge_n17 (X : q_X) (l : Launch) (x1 : Int32) (x2 : Int32) (x3 : Int32) (x4 : Int32) (s0 : Int32) (w : q_W) : q_J X S_C l mX10_edge 7 q_tI 17 [(0, .ref 0), (1, .int x1), (2, .int x2), (3, .int x3), (4, .int x4)] [.int s0] w (fX10_edge_n17 x1 x2 x3 x4 s0 w) := by
  refine q_istore (lv' := [(5, .int s0), (0, .ref 0), (1, .int x1), (2, .int x2), (3, .int x3), (4, .int x4)]) eX10_edge_17 (by decide) rfl ?_
  refine q_iload 0 eX10_edge_19 rfl ?_
  refine q_if_eq (tgt := 50) eX10_edge_21 (by decide) (fun _ => ?_) (fun _ => ?_)
  · refine q_iconst eX10_edge_50 kiconst_m1 ?_
    exact q_ireturn eX10_edge_51 rfl
  · refine q_aload_n 1 eX10_edge_24 rfl rfl ?_
    refine q_iload_n 2 eX10_edge_25 rfl rfl ?_
    refine q_iload_n 3 eX10_edge_26 rfl rfl ?_
    refine q_iload 5 eX10_edge_27 rfl ?_
    refine q_callVI (As := [.int x1, .int x2, .int x4]) (st := []) eX10_edge_29 cv_10_224 (kX10_takeBoth X l x1 x2 x4 w) tC_0 rfl (by decide) rfl rfl (Nat.le_of_ble_eq_true rfl) (by decide) (fun r1 w2 => ?_)
    refine q_if_eq (tgt := 50) eX10_edge_32 (by decide) (fun _ => ?_) (fun _ => ?_)
    · refine q_iconst eX10_edge_50 kiconst_m1 ?_
      exact q_ireturn eX10_edge_51 rfl
    · refine q_aload_n 1 eX10_edge_35 rfl rfl ?_
      refine q_getG (v := 14) eX10_edge_36 fl_10_42 tC_0 rfl gC_0_4 ?_
      refine q_aload_n 1 eX10_edge_39 rfl rfl ?_
      refine q_getG (v := 18) eX10_edge_40 fl_10_46 tC_0 rfl gC_0_5 ?_
      refine q_iload_n 4 eX10_edge_43 rfl rfl ?_
      refine q_callVI (As := [.ref 18, .int x3]) (st := []) eX10_edge_44 cv_10_227 (kX8_edgesUnlike X l 14 18 x3 w2) tC_14 rfl (by decide) rfl rfl (Nat.le_of_ble_eq_true rfl) (by decide) (fun r3 w4 => ?_)
      refine q_goto (tgt := 51) eX10_edge_47 (by decide) ?_
      exact q_ireturn eX10_edge_51 rfl
def fX10_edge_n16 (x1 : Int32) (x2 : Int32) (x3 : Int32) (x4 : Int32) (w : q_W) : Option (Int32 × q_W) :=
  fX10_edge_n17 x1 x2 x3 x4 0 w
set_option maxHeartbeats 4000000 in
set_option maxRecDepth 100000 in
theorem jX10_edge_n16 (X : q_X) (l : Launch) (x1 : Int32) (x2 : Int32) (x3 : Int32) (x4 : Int32) (w : q_W) : q_J X S_C l mX10_edge 7 q_tI 16 [(0, .ref 0), (1, .int x1), (2, .int x2), (3, .int x3), (4, .int x4)] [] w (fX10_edge_n16 x1 x2 x3 x4 w) := by
  refine q_iconst eX10_edge_16 kiconst_0 ?_
  exact q_sub [0, 1, 2, 3, 4] rfl (jX10_edge_n17 X l x1 x2 x3 x4 0 w)
def fX10_edge (a1 : Int32) (a2 : Int32) (a3 : Int32) (a4 : Int32) (w : q_W) : Option (Int32 × q_W) :=
  if a3 ≤ (-16) then
    fX10_edge_n16 a1 a2 a3 a4 w
  else
    if 16 ≤ a3 then
      fX10_edge_n16 a1 a2 a3 a4 w
    else
      fX10_edge_n17 a1 a2 a3 a4 1 w
set_option maxHeartbeats 4000000 in
set_option maxRecDepth 100000 in
theorem kX10_edge (X : q_X) (l : Launch) (a1 : Int32) (a2 : Int32) (a3 : Int32) (a4 : Int32) (w : q_W) : q_Ct X S_C l mX10_edge 7 q_tI [.ref 0, .int a1, .int a2, .int a3, .int a4] w (fX10_edge a1 a2 a3 a4 w) := by
  refine q_intro (lv := [(0, .ref 0), (1, .int a1), (2, .int a2), (3, .int a3), (4, .int a4)]) (by decide +kernel) rfl (Nat.le_of_ble_eq_true rfl) rfl ?_
  refine q_iload_n 3 eX10_edge_0 rfl rfl ?_
  refine q_bipush eX10_edge_1 kbipush_m16 ?_
  refine q_icmp_le (tgt := 16) eX10_edge_3 (by decide) (fun _ => ?_) (fun _ => ?_)
  · exact q_sub [0, 1, 2, 3, 4] rfl (jX10_edge_n16 X l a1 a2 a3 a4 w)
  · refine q_iload_n 3 eX10_edge_6 rfl rfl ?_
    refine q_bipush eX10_edge_7 kbipush_16 ?_
    refine q_icmp_ge (tgt := 16) eX10_edge_9 (by decide) (fun _ => ?_) (fun _ => ?_)
    · exact q_sub [0, 1, 2, 3, 4] rfl (jX10_edge_n16 X l a1 a2 a3 a4 w)
    · refine q_iconst eX10_edge_12 kiconst_1 ?_
      refine q_goto (tgt := 17) eX10_edge_13 (by decide) ?_
      exact q_sub [0, 1, 2, 3, 4] rfl (jX10_edge_n17 X l a1 a2 a3 a4 1 w)
def fX10_match (a1 : Int32) (a2 : Int32) (a3 : Int32) (w : q_W) : Option (Int32 × q_W) :=
  q_b (fX10_takeBoth a1 a2 a3 w) fun r1 w2 =>
  if r1 = 0 then
    some ((-100), w2)
  else
    q_b (fX8_bestShift 14 18 w2) fun r3 w4 =>
    some (r3, w4)
set_option maxHeartbeats 4000000 in
set_option maxRecDepth 100000 in
theorem kX10_match (X : q_X) (l : Launch) (a1 : Int32) (a2 : Int32) (a3 : Int32) (w : q_W) : q_Ct X S_C l mX10_match 7 q_tI [.ref 0, .int a1, .int a2, .int a3] w (fX10_match a1 a2 a3 w) := by
  refine q_intro (lv := [(0, .ref 0), (1, .int a1), (2, .int a2), (3, .int a3)]) (by decide +kernel) rfl (Nat.le_of_ble_eq_true rfl) rfl ?_
  refine q_aload_n 0 eX10_match_0 rfl rfl ?_
  refine q_iload_n 1 eX10_match_1 rfl rfl ?_
  refine q_iload_n 2 eX10_match_2 rfl rfl ?_
  refine q_iload_n 3 eX10_match_3 rfl rfl ?_
  refine q_callVI (As := [.int a1, .int a2, .int a3]) (st := []) eX10_match_4 cv_10_224 (kX10_takeBoth X l a1 a2 a3 w) tC_0 rfl (by decide) rfl rfl (Nat.le_of_ble_eq_true rfl) (by decide) (fun r1 w2 => ?_)
  refine q_if_eq (tgt := 24) eX10_match_7 (by decide) (fun _ => ?_) (fun _ => ?_)
  · refine q_bipush eX10_match_24 kbipush_m100 ?_
    exact q_ireturn eX10_match_26 rfl
  · refine q_aload_n 0 eX10_match_10 rfl rfl ?_
    refine q_getG (v := 14) eX10_match_11 fl_10_42 tC_0 rfl gC_0_4 ?_
    refine q_aload_n 0 eX10_match_14 rfl rfl ?_
    refine q_getG (v := 18) eX10_match_15 fl_10_46 tC_0 rfl gC_0_5 ?_
    refine q_callVI (As := [.ref 18]) (st := []) eX10_match_18 cv_10_231 (kX8_bestShift X l 14 18 w2) tC_14 rfl (by decide) rfl rfl (Nat.le_of_ble_eq_true rfl) (by decide) (fun r3 w4 => ?_)
    refine q_goto (tgt := 26) eX10_match_21 (by decide) ?_
    exact q_ireturn eX10_match_26 rfl
def fX10_unlike (a1 : Int32) (a2 : Int32) (a3 : Int32) (w : q_W) : Option (Int32 × q_W) :=
  q_b (fX10_takeBoth a1 a2 a3 w) fun r1 w2 =>
  if r1 = 0 then
    some ((-1), w2)
  else
    q_b (fX8_cellsUnlike 14 18 w2) fun r3 w4 =>
    some (r3, w4)
set_option maxHeartbeats 4000000 in
set_option maxRecDepth 100000 in
theorem kX10_unlike (X : q_X) (l : Launch) (a1 : Int32) (a2 : Int32) (a3 : Int32) (w : q_W) : q_Ct X S_C l mX10_unlike 7 q_tI [.ref 0, .int a1, .int a2, .int a3] w (fX10_unlike a1 a2 a3 w) := by
  refine q_intro (lv := [(0, .ref 0), (1, .int a1), (2, .int a2), (3, .int a3)]) (by decide +kernel) rfl (Nat.le_of_ble_eq_true rfl) rfl ?_
  refine q_aload_n 0 eX10_unlike_0 rfl rfl ?_
  refine q_iload_n 1 eX10_unlike_1 rfl rfl ?_
  refine q_iload_n 2 eX10_unlike_2 rfl rfl ?_
  refine q_iload_n 3 eX10_unlike_3 rfl rfl ?_
  refine q_callVI (As := [.int a1, .int a2, .int a3]) (st := []) eX10_unlike_4 cv_10_224 (kX10_takeBoth X l a1 a2 a3 w) tC_0 rfl (by decide) rfl rfl (Nat.le_of_ble_eq_true rfl) (by decide) (fun r1 w2 => ?_)
  refine q_if_eq (tgt := 24) eX10_unlike_7 (by decide) (fun _ => ?_) (fun _ => ?_)
  · refine q_iconst eX10_unlike_24 kiconst_m1 ?_
    exact q_ireturn eX10_unlike_25 rfl
  · refine q_aload_n 0 eX10_unlike_10 rfl rfl ?_
    refine q_getG (v := 14) eX10_unlike_11 fl_10_42 tC_0 rfl gC_0_4 ?_
    refine q_aload_n 0 eX10_unlike_14 rfl rfl ?_
    refine q_getG (v := 18) eX10_unlike_15 fl_10_46 tC_0 rfl gC_0_5 ?_
    refine q_callVI (As := [.ref 18]) (st := []) eX10_unlike_18 cv_10_235 (kX8_cellsUnlike X l 14 18 w2) tC_14 rfl (by decide) rfl rfl (Nat.le_of_ble_eq_true rfl) (by decide) (fun r3 w4 => ?_)
    refine q_goto (tgt := 25) eX10_unlike_21 (by decide) ?_
    exact q_ireturn eX10_unlike_25 rfl
def fX10_made (a1 : Int32) (a2 : Int32) (w : q_W) : Option (Int32 × q_W) :=
  q_b (fX10_takeSheet 14 a1 a2 w) fun r1 w2 =>
  if r1 = 0 then
    some ((-1), w2)
  else
    if cC (w2.2.1 0 7) = 4 then
    q_b (fX3_seekBest (w2.2.1 0 7) a1 w2) fun r4 w5 =>
    if r4 = 0 then
      some ((-2), w5)
    else
      q_b (fX3_bestMade w5) fun r6 w7 =>
      some (r6, w7)
    else none
set_option maxHeartbeats 4000000 in
set_option maxRecDepth 100000 in
theorem kX10_made (X : q_X) (l : Launch) (a1 : Int32) (a2 : Int32) (w : q_W) : q_Ct X S_C l mX10_made 7 q_tI [.ref 0, .int a1, .int a2] w (fX10_made a1 a2 w) := by
  refine q_intro (lv := [(0, .ref 0), (1, .int a1), (2, .int a2)]) (by decide +kernel) rfl (Nat.le_of_ble_eq_true rfl) rfl ?_
  refine q_aload_n 0 eX10_made_0 rfl rfl ?_
  refine q_aload_n 0 eX10_made_1 rfl rfl ?_
  refine q_getG (v := 14) eX10_made_2 fl_10_42 tC_0 rfl gC_0_4 ?_
  refine q_iload_n 1 eX10_made_5 rfl rfl ?_
  refine q_iload_n 2 eX10_made_6 rfl rfl ?_
  refine q_callVI (As := [.ref 14, .int a1, .int a2]) (st := []) eX10_made_7 cv_10_210 (kX10_takeSheet X l 14 a1 a2 w) tC_0 rfl (by decide) rfl rfl (Nat.le_of_ble_eq_true rfl) (by decide) (fun r1 w2 => ?_)
  refine q_if_ne (tgt := 15) eX10_made_10 (by decide) (fun _ => ?_) (fun _ => ?_)
  · refine q_iconst eX10_made_13 kiconst_m1 ?_
    exact q_ireturn eX10_made_14 rfl
  · refine q_aload_n 0 eX10_made_15 rfl rfl ?_
    refine q_getG (v := 37) eX10_made_16 fl_10_86 tC_0 rfl gC_0_11 ?_
    refine q_aload_n 0 eX10_made_19 rfl rfl ?_
    refine q_getR eX10_made_20 fl_10_56 tC_0 rfl ?_
    refine q_ck (fun g3 => ?_)
    refine q_iload_n 1 eX10_made_23 rfl rfl ?_
    refine q_callVI (As := [.ref (w2.2.1 0 7), .int a1]) (st := []) eX10_made_24 cv_10_238 (kX3_seekBest X l (w2.2.1 0 7) a1 w2) tC_37 rfl (by decide) rfl rfl (Nat.le_of_ble_eq_true rfl) (by decide) (fun r4 w5 => ?_)
    refine q_if_eq (tgt := 40) eX10_made_27 (by decide) (fun _ => ?_) (fun _ => ?_)
    · refine q_bipush eX10_made_40 kbipush_m2 ?_
      exact q_ireturn eX10_made_42 rfl
    · refine q_aload_n 0 eX10_made_30 rfl rfl ?_
      refine q_getG (v := 37) eX10_made_31 fl_10_86 tC_0 rfl gC_0_11 ?_
      refine q_callVI (As := []) (st := []) eX10_made_34 cv_10_242 (kX3_bestMade X l w5) tC_37 rfl (by decide) rfl rfl (Nat.le_of_ble_eq_true rfl) (by decide) (fun r6 w7 => ?_)
      refine q_goto (tgt := 42) eX10_made_37 (by decide) ?_
      exact q_ireturn eX10_made_42 rfl
def fX10_off (a1 : Int32) (a2 : Int32) (w : q_W) : Option (Int32 × q_W) :=
  q_b (fX10_takeSheet 14 a1 a2 w) fun r1 w2 =>
  if r1 = 0 then
    some ((-1), w2)
  else
    if cC (w2.2.1 0 7) = 4 then
    q_b (fX3_seekBest (w2.2.1 0 7) a1 w2) fun r4 w5 =>
    if r4 = 0 then
      some ((-2), w5)
    else
      q_b (fX3_bestOff w5) fun r6 w7 =>
      some (r6, w7)
    else none
set_option maxHeartbeats 4000000 in
set_option maxRecDepth 100000 in
theorem kX10_off (X : q_X) (l : Launch) (a1 : Int32) (a2 : Int32) (w : q_W) : q_Ct X S_C l mX10_off 7 q_tI [.ref 0, .int a1, .int a2] w (fX10_off a1 a2 w) := by
  refine q_intro (lv := [(0, .ref 0), (1, .int a1), (2, .int a2)]) (by decide +kernel) rfl (Nat.le_of_ble_eq_true rfl) rfl ?_
  refine q_aload_n 0 eX10_off_0 rfl rfl ?_
  refine q_aload_n 0 eX10_off_1 rfl rfl ?_
  refine q_getG (v := 14) eX10_off_2 fl_10_42 tC_0 rfl gC_0_4 ?_
  refine q_iload_n 1 eX10_off_5 rfl rfl ?_
  refine q_iload_n 2 eX10_off_6 rfl rfl ?_
  refine q_callVI (As := [.ref 14, .int a1, .int a2]) (st := []) eX10_off_7 cv_10_210 (kX10_takeSheet X l 14 a1 a2 w) tC_0 rfl (by decide) rfl rfl (Nat.le_of_ble_eq_true rfl) (by decide) (fun r1 w2 => ?_)
  refine q_if_ne (tgt := 15) eX10_off_10 (by decide) (fun _ => ?_) (fun _ => ?_)
  · refine q_iconst eX10_off_13 kiconst_m1 ?_
    exact q_ireturn eX10_off_14 rfl
  · refine q_aload_n 0 eX10_off_15 rfl rfl ?_
    refine q_getG (v := 37) eX10_off_16 fl_10_86 tC_0 rfl gC_0_11 ?_
    refine q_aload_n 0 eX10_off_19 rfl rfl ?_
    refine q_getR eX10_off_20 fl_10_56 tC_0 rfl ?_
    refine q_ck (fun g3 => ?_)
    refine q_iload_n 1 eX10_off_23 rfl rfl ?_
    refine q_callVI (As := [.ref (w2.2.1 0 7), .int a1]) (st := []) eX10_off_24 cv_10_238 (kX3_seekBest X l (w2.2.1 0 7) a1 w2) tC_37 rfl (by decide) rfl rfl (Nat.le_of_ble_eq_true rfl) (by decide) (fun r4 w5 => ?_)
    refine q_if_eq (tgt := 40) eX10_off_27 (by decide) (fun _ => ?_) (fun _ => ?_)
    · refine q_bipush eX10_off_40 kbipush_m2 ?_
      exact q_ireturn eX10_off_42 rfl
    · refine q_aload_n 0 eX10_off_30 rfl rfl ?_
      refine q_getG (v := 37) eX10_off_31 fl_10_86 tC_0 rfl gC_0_11 ?_
      refine q_callVI (As := []) (st := []) eX10_off_34 cv_10_245 (kX3_bestOff X l w5) tC_37 rfl (by decide) rfl rfl (Nat.le_of_ble_eq_true rfl) (by decide) (fun r6 w7 => ?_)
      refine q_goto (tgt := 42) eX10_off_37 (by decide) ?_
      exact q_ireturn eX10_off_42 rfl
def fX10_row (a1 : Int32) (a2 : Int32) (a3 : Int32) (w : q_W) : Option (Int32 × q_W) :=
  if a2 < 0 then
    some ((-1), w)
  else
    q_b (fX10_takeSheet 14 a1 a3 w) fun r1 w2 =>
    if r1 = 0 then
      some ((-1), w2)
    else
      if cC (w2.2.1 0 7) = 4 then
      q_b (fX3_seekRow (w2.2.1 0 7) a1 a2 w2) fun r4 w5 =>
      if r4 = 0 then
        some ((-2), w5)
      else
        q_b (fX3_foundLength w5) fun r6 w7 =>
        some (r6, w7)
      else none
set_option maxHeartbeats 4000000 in
set_option maxRecDepth 100000 in
theorem kX10_row (X : q_X) (l : Launch) (a1 : Int32) (a2 : Int32) (a3 : Int32) (w : q_W) : q_Ct X S_C l mX10_row 7 q_tI [.ref 0, .int a1, .int a2, .int a3] w (fX10_row a1 a2 a3 w) := by
  refine q_intro (lv := [(0, .ref 0), (1, .int a1), (2, .int a2), (3, .int a3)]) (by decide +kernel) rfl (Nat.le_of_ble_eq_true rfl) rfl ?_
  refine q_iload_n 2 eX10_row_0 rfl rfl ?_
  refine q_if_lt (tgt := 17) eX10_row_1 (by decide) (fun _ => ?_) (fun _ => ?_)
  · refine q_iconst eX10_row_17 kiconst_m1 ?_
    exact q_ireturn eX10_row_18 rfl
  · refine q_aload_n 0 eX10_row_4 rfl rfl ?_
    refine q_aload_n 0 eX10_row_5 rfl rfl ?_
    refine q_getG (v := 14) eX10_row_6 fl_10_42 tC_0 rfl gC_0_4 ?_
    refine q_iload_n 1 eX10_row_9 rfl rfl ?_
    refine q_iload_n 3 eX10_row_10 rfl rfl ?_
    refine q_callVI (As := [.ref 14, .int a1, .int a3]) (st := []) eX10_row_11 cv_10_210 (kX10_takeSheet X l 14 a1 a3 w) tC_0 rfl (by decide) rfl rfl (Nat.le_of_ble_eq_true rfl) (by decide) (fun r1 w2 => ?_)
    refine q_if_ne (tgt := 19) eX10_row_14 (by decide) (fun _ => ?_) (fun _ => ?_)
    · refine q_iconst eX10_row_17 kiconst_m1 ?_
      exact q_ireturn eX10_row_18 rfl
    · refine q_aload_n 0 eX10_row_19 rfl rfl ?_
      refine q_getG (v := 37) eX10_row_20 fl_10_86 tC_0 rfl gC_0_11 ?_
      refine q_aload_n 0 eX10_row_23 rfl rfl ?_
      refine q_getR eX10_row_24 fl_10_56 tC_0 rfl ?_
      refine q_ck (fun g3 => ?_)
      refine q_iload_n 1 eX10_row_27 rfl rfl ?_
      refine q_iload_n 2 eX10_row_28 rfl rfl ?_
      refine q_callVI (As := [.ref (w2.2.1 0 7), .int a1, .int a2]) (st := []) eX10_row_29 cv_10_248 (kX3_seekRow X l (w2.2.1 0 7) a1 a2 w2) tC_37 rfl (by decide) rfl rfl (Nat.le_of_ble_eq_true rfl) (by decide) (fun r4 w5 => ?_)
      refine q_if_eq (tgt := 45) eX10_row_32 (by decide) (fun _ => ?_) (fun _ => ?_)
      · refine q_bipush eX10_row_45 kbipush_m2 ?_
        exact q_ireturn eX10_row_47 rfl
      · refine q_aload_n 0 eX10_row_35 rfl rfl ?_
        refine q_getG (v := 37) eX10_row_36 fl_10_86 tC_0 rfl gC_0_11 ?_
        refine q_callVI (As := []) (st := []) eX10_row_39 cv_10_252 (kX3_foundLength X l w5) tC_37 rfl (by decide) rfl rfl (Nat.le_of_ble_eq_true rfl) (by decide) (fun r6 w7 => ?_)
        refine q_goto (tgt := 47) eX10_row_42 (by decide) ?_
        exact q_ireturn eX10_row_47 rfl
def fX10_rowed (a1 : Int32) (w : q_W) : Option (Int32 × q_W) :=
  if a1 < 0 then
    some ((-1), w)
  else
    q_b (fX3_foundLength w) fun r1 w2 =>
    if r1 ≤ a1 then
      some ((-1), w2)
    else
      q_b (fX3_foundAt a1 w2) fun r3 w4 =>
      some (r3, w4)
set_option maxHeartbeats 4000000 in
set_option maxRecDepth 100000 in
theorem kX10_rowed (X : q_X) (l : Launch) (a1 : Int32) (w : q_W) : q_Ct X S_C l mX10_rowed 1 q_tI [.ref 0, .int a1] w (fX10_rowed a1 w) := by
  refine q_intro (lv := [(0, .ref 0), (1, .int a1)]) (by decide +kernel) rfl (Nat.le_of_ble_eq_true rfl) rfl ?_
  refine q_iload_n 1 eX10_rowed_0 rfl rfl ?_
  refine q_if_lt (tgt := 26) eX10_rowed_1 (by decide) (fun _ => ?_) (fun _ => ?_)
  · refine q_iconst eX10_rowed_26 kiconst_m1 ?_
    exact q_ireturn eX10_rowed_27 rfl
  · refine q_iload_n 1 eX10_rowed_4 rfl rfl ?_
    refine q_aload_n 0 eX10_rowed_5 rfl rfl ?_
    refine q_getG (v := 37) eX10_rowed_6 fl_10_86 tC_0 rfl gC_0_11 ?_
    refine q_callVI (As := []) (st := [.int a1]) eX10_rowed_9 cv_10_252 (kX3_foundLength X l w) tC_37 rfl (by decide) rfl rfl (Nat.le_of_ble_eq_true rfl) (by decide) (fun r1 w2 => ?_)
    refine q_icmp_ge (tgt := 26) eX10_rowed_12 (by decide) (fun _ => ?_) (fun _ => ?_)
    · refine q_iconst eX10_rowed_26 kiconst_m1 ?_
      exact q_ireturn eX10_rowed_27 rfl
    · refine q_aload_n 0 eX10_rowed_15 rfl rfl ?_
      refine q_getG (v := 37) eX10_rowed_16 fl_10_86 tC_0 rfl gC_0_11 ?_
      refine q_iload_n 1 eX10_rowed_19 rfl rfl ?_
      refine q_callVI (As := [.int a1]) (st := []) eX10_rowed_20 cv_10_255 (kX3_foundAt X l a1 w2) tC_37 rfl (by decide) rfl rfl (Nat.le_of_ble_eq_true rfl) (by decide) (fun r3 w4 => ?_)
      refine q_goto (tgt := 27) eX10_rowed_23 (by decide) ?_
      exact q_ireturn eX10_rowed_27 rfl
def fX10_count (a1 : Int32) (w : q_W) : Option (Int32 × q_W) :=
  if a1 = 0 then
    if cC (w.2.1 0 7) = 4 then
    q_b (fX4_size (w.2.1 0 7) w) fun r3 w4 =>
    some (r3, w4)
    else none
  else if a1 = 1 then
    q_b (fX2_size w) fun r6 w7 =>
    some (r6, w7)
  else if a1 = 2 then
    q_b (fX2_size w) fun r9 w10 =>
    q_b (fX2_size w10) fun r11 w12 =>
    q_b (fX2_laysKnown r11 w12) fun r13 w14 =>
    q_b (fX2_pickStrokes r9 r13 w14) fun r15 w16 =>
    q_b (fX0_size w16) fun r17 w18 =>
    some (r17, w18)
  else if a1 = 3 then
    q_b (fX9_size w) fun r20 w21 =>
    some (r20, w21)
  else some ((-1), w)
set_option maxHeartbeats 4000000 in
set_option maxRecDepth 100000 in
theorem kX10_count (X : q_X) (l : Launch) (a1 : Int32) (w : q_W) : q_Ct X S_C l mX10_count 3 q_tI [.ref 0, .int a1] w (fX10_count a1 w) := by
  refine q_intro (lv := [(0, .ref 0), (1, .int a1)]) (by decide +kernel) rfl (Nat.le_of_ble_eq_true rfl) rfl ?_
  refine q_iload_n 1 eX10_count_0 rfl rfl ?_
  refine q_ite (fun c1 => ?_) (fun c1 => ?_)
  · refine q_tabIn (off := 31) (tgt := 32) eX10_count_1 (by rw [c1]; decide) (by rw [c1]; decide) (by rw [c1]; rfl) (by decide) ?_
    refine q_aload_n 0 eX10_count_32 rfl rfl ?_
    refine q_getR eX10_count_33 fl_10_56 tC_0 rfl ?_
    refine q_ck (fun g2 => ?_)
    refine q_callVI (As := []) (st := []) eX10_count_36 cv_10_258 (kX4_size X l (w.2.1 0 7) w) g2 rfl (by decide) rfl rfl (Nat.le_of_ble_eq_true rfl) (by decide) (fun r3 w4 => ?_)
    exact q_ireturn eX10_count_39 rfl
  refine q_ite (fun c5 => ?_) (fun c5 => ?_)
  · refine q_tabIn (off := 39) (tgt := 40) eX10_count_1 (by rw [c5]; decide) (by rw [c5]; decide) (by rw [c5]; rfl) (by decide) ?_
    refine q_aload_n 0 eX10_count_40 rfl rfl ?_
    refine q_getG (v := 3) eX10_count_41 fl_10_19 tC_0 rfl gC_0_1 ?_
    refine q_callVI (As := []) (st := []) eX10_count_44 cv_10_259 (kX2_size X l w) tC_3 rfl (by decide) rfl rfl (Nat.le_of_ble_eq_true rfl) (by decide) (fun r6 w7 => ?_)
    exact q_ireturn eX10_count_47 rfl
  refine q_ite (fun c8 => ?_) (fun c8 => ?_)
  · refine q_tabIn (off := 47) (tgt := 48) eX10_count_1 (by rw [c8]; decide) (by rw [c8]; decide) (by rw [c8]; rfl) (by decide) ?_
    refine q_aload_n 0 eX10_count_48 rfl rfl ?_
    refine q_getG (v := 3) eX10_count_49 fl_10_19 tC_0 rfl gC_0_1 ?_
    refine q_aload_n 0 eX10_count_52 rfl rfl ?_
    refine q_getG (v := 12) eX10_count_53 fl_10_35 tC_0 rfl gC_0_3 ?_
    refine q_aload_n 0 eX10_count_56 rfl rfl ?_
    refine q_getG (v := 3) eX10_count_57 fl_10_19 tC_0 rfl gC_0_1 ?_
    refine q_callVI (As := []) (st := [.ref 12, .ref 3]) eX10_count_60 cv_10_259 (kX2_size X l w) tC_3 rfl (by decide) rfl rfl (Nat.le_of_ble_eq_true rfl) (by decide) (fun r9 w10 => ?_)
    refine q_aload_n 0 eX10_count_63 rfl rfl ?_
    refine q_getG (v := 3) eX10_count_64 fl_10_19 tC_0 rfl gC_0_1 ?_
    refine q_aload_n 0 eX10_count_67 rfl rfl ?_
    refine q_getG (v := 3) eX10_count_68 fl_10_19 tC_0 rfl gC_0_1 ?_
    refine q_callVI (As := []) (st := [.ref 3, .int r9, .ref 12, .ref 3]) eX10_count_71 cv_10_259 (kX2_size X l w10) tC_3 rfl (by decide) rfl rfl (Nat.le_of_ble_eq_true rfl) (by decide) (fun r11 w12 => ?_)
    refine q_callVI (As := [.int r11]) (st := [.int r9, .ref 12, .ref 3]) eX10_count_74 cv_10_204 (kX2_laysKnown X l r11 w12) tC_3 rfl (by decide) rfl rfl (Nat.le_of_ble_eq_true rfl) (by decide) (fun r13 w14 => ?_)
    refine q_callVI (As := [.ref 12, .int r9, .int r13]) (st := []) eX10_count_77 cv_10_260 (kX2_pickStrokes X l r9 r13 w14) tC_3 rfl (by decide) rfl rfl (Nat.le_of_ble_eq_true rfl) (by decide) (fun r15 w16 => ?_)
    refine q_pop eX10_count_80 rfl ?_
    refine q_aload_n 0 eX10_count_81 rfl rfl ?_
    refine q_getG (v := 12) eX10_count_82 fl_10_35 tC_0 rfl gC_0_3 ?_
    refine q_callVI (As := []) (st := []) eX10_count_85 cv_10_264 (kX0_size X l w16) tC_12 rfl (by decide) rfl rfl (Nat.le_of_ble_eq_true rfl) (by decide) (fun r17 w18 => ?_)
    exact q_ireturn eX10_count_88 rfl
  refine q_ite (fun c19 => ?_) (fun c19 => ?_)
  · refine q_tabIn (off := 88) (tgt := 89) eX10_count_1 (by rw [c19]; decide) (by rw [c19]; decide) (by rw [c19]; rfl) (by decide) ?_
    refine q_aload_n 0 eX10_count_89 rfl rfl ?_
    refine q_getG (v := 1) eX10_count_90 fl_10_10 tC_0 rfl gC_0_0 ?_
    refine q_callVI (As := []) (st := []) eX10_count_93 cv_10_105 (kX9_size X l w) tC_1 rfl (by decide) rfl rfl (Nat.le_of_ble_eq_true rfl) (by decide) (fun r20 w21 => ?_)
    exact q_ireturn eX10_count_96 rfl
  refine q_tabOut (tgt := 97) eX10_count_1 (by have zc1 := lv_neT (a := 0) c1 rfl; have zc5 := lv_neT (a := 1) c5 rfl; have zc8 := lv_neT (a := 2) c8 rfl; have zc19 := lv_neT (a := 3) c19 rfl; omega) (by decide) ?_
  refine q_iconst eX10_count_97 kiconst_m1 ?_
  exact q_ireturn eX10_count_98 rfl
def fX11_put_h3 (rec3 : Int32 → Int32 → q_W → Option (Unit × q_W)) (x1 : Int32) (x2 : Int32) (w : q_W) : Option (Unit × q_W) :=
  if x2 < 0 then
    some ((), w)
  else
    q_lt (w.1 0 2) fun y1 =>
    if q_inb y1 2000 then
    q_lt (q_sI w 1 (q_ix y1) (vp_nar .byte (Int8.toInt32 (Int32.toInt8 (x1 >>> (x2 &&& 31)))))) fun w2 =>
    q_lt (q_sI w2 0 2 ((w2.1 0 2) + 1)) fun w3 =>
    q_lt (x2 + (-8)) fun y4 =>
    rec3 x1 y4 w3
    else none
def fX11_put_l3 : Int32 → Int32 → q_W → Option (Unit × q_W) := q_it q_N (fX11_put_h3) (fun _ _ _ => none)
set_option maxHeartbeats 4000000 in
set_option maxRecDepth 100000 in
theorem jX11_put_h3 (X : q_X) (l : Launch) (rec3 : Int32 → Int32 → q_W → Option (Unit × q_W)) (hr3 : ∀ x1 x2 w, q_J X S_R l mX11_put 0 q_tV 3 [(0, .ref 0), (1, .int x1), (2, .int x2)] [] w (rec3 x1 x2 w)) : ∀ x1 x2 w, q_J X S_R l mX11_put 0 q_tV 3 [(0, .ref 0), (1, .int x1), (2, .int x2)] [] w (fX11_put_h3 rec3 x1 x2 w) := by
  intro x1 x2 w
  refine q_iload_n 2 eX11_put_3 rfl rfl ?_
  refine q_if_lt (tgt := 36) eX11_put_4 (by decide) (fun _ => ?_) (fun _ => ?_)
  · exact q_return eX11_put_36 rfl
  · refine q_aload_n 0 eX11_put_7 rfl rfl ?_
    refine q_getG (v := 1) eX11_put_8 fl_11_13 tR_0 rfl gR_0_1 ?_
    refine q_aload_n 0 eX11_put_11 rfl rfl ?_
    refine q_getI eX11_put_12 fl_11_135 tR_0 rfl ?_
    refine q_iload_n 1 eX11_put_15 rfl rfl ?_
    refine q_iload_n 2 eX11_put_16 rfl rfl ?_
    refine q_ishr eX11_put_17 ?_
    refine q_i2b eX11_put_18 ?_
    refine q_ltI1 (fun y1 => ?_)
    refine q_bast eX11_put_19 tR_1 nR_1 ?_
    refine q_ltW (fun w2 => ?_)
    refine q_aload_n 0 eX11_put_20 rfl rfl ?_
    refine q_dup eX11_put_21 rfl ?_
    refine q_getI eX11_put_22 fl_11_135 tR_0 rfl ?_
    refine q_iconst eX11_put_25 kiconst_1 ?_
    refine q_iadd eX11_put_26 ?_
    refine q_putI eX11_put_27 fp_11_135 tR_0 rfl ⟨rfl, rfl⟩ ?_
    refine q_ltW (fun w3 => ?_)
    refine q_ltE (fun y4 hy4 => ?_)
    refine q_iinc (v := y4) (lv' := [(2, .int y4), (0, .ref 0), (1, .int x1)]) 2 eX11_put_30 rfl hy4 (by decide) rfl ?_
    refine q_goto (tgt := 3) eX11_put_33 (by decide) ?_
    exact q_sub [1, 2, 0] rfl (hr3 x1 y4 w3)
set_option maxHeartbeats 4000000 in
set_option maxRecDepth 100000 in
theorem jX11_put_l3 (X : q_X) (l : Launch) : ∀ x1 x2 w, q_J X S_R l mX11_put 0 q_tV 3 [(0, .ref 0), (1, .int x1), (2, .int x2)] [] w (fX11_put_l3 x1 x2 w) := by
  exact q_it_ind (fun rc => ∀ x1 x2 w, q_J X S_R l mX11_put 0 q_tV 3 [(0, .ref 0), (1, .int x1), (2, .int x2)] [] w (rc x1 x2 w)) _ _ (fun _ _ _ => q_none) (fun rc hrc => jX11_put_h3 X l rc hrc) q_N
def fX11_put (a1 : Int32) (w : q_W) : Option (Unit × q_W) :=
  fX11_put_l3 a1 24 w
set_option maxHeartbeats 4000000 in
set_option maxRecDepth 100000 in
theorem kX11_put (X : q_X) (l : Launch) (a1 : Int32) (w : q_W) : q_Ct X S_R l mX11_put 0 q_tV [.ref 0, .int a1] w (fX11_put a1 w) := by
  refine q_intro (lv := [(0, .ref 0), (1, .int a1)]) (by decide +kernel) rfl (Nat.le_of_ble_eq_true rfl) rfl ?_
  refine q_bipush eX11_put_0 kbipush_24 ?_
  refine q_istore_n (lv' := [(2, .int 24), (0, .ref 0), (1, .int a1)]) eX11_put_2 rfl (by decide) rfl ?_
  exact q_sub [1, 2, 0] rfl (jX11_put_l3 X l a1 24 w)
def fX11_feed (a1 : Int32) (a2 : Int32) (a3 : Int32) (a4 : Int32) (a5 : Int32) (w : q_W) : Option (Int32 × q_W) :=
  if ((w.1 0 2) + 20) ≤ 2000 then
    q_b (fX11_put a1 w) fun r1 w2 =>
    q_b (fX11_put a2 w2) fun r3 w4 =>
    q_b (fX11_put a3 w4) fun r5 w6 =>
    q_b (fX11_put a4 w6) fun r7 w8 =>
    q_b (fX11_put a5 w8) fun r9 w10 =>
    some ((w10.1 0 2), w10)
  else
    some ((-1), w)
set_option maxHeartbeats 4000000 in
set_option maxRecDepth 100000 in
theorem kX11_feed (X : q_X) (l : Launch) (a1 : Int32) (a2 : Int32) (a3 : Int32) (a4 : Int32) (a5 : Int32) (w : q_W) : q_Ct X S_R l mX11_feed 1 q_tI [.ref 0, .int a1, .int a2, .int a3, .int a4, .int a5] w (fX11_feed a1 a2 a3 a4 a5 w) := by
  refine q_intro (lv := [(0, .ref 0), (1, .int a1), (2, .int a2), (3, .int a3), (4, .int a4), (5, .int a5)]) (by decide +kernel) rfl (Nat.le_of_ble_eq_true rfl) rfl ?_
  refine q_aload_n 0 eX11_feed_0 rfl rfl ?_
  refine q_getI eX11_feed_1 fl_11_135 tR_0 rfl ?_
  refine q_bipush eX11_feed_4 kbipush_20 ?_
  refine q_iadd eX11_feed_6 ?_
  refine q_sipush eX11_feed_7 ksipush_2000 ?_
  refine q_icmp_le (tgt := 15) eX11_feed_10 (by decide) (fun _ => ?_) (fun _ => ?_)
  · refine q_aload_n 0 eX11_feed_15 rfl rfl ?_
    refine q_iload_n 1 eX11_feed_16 rfl rfl ?_
    refine q_callVV (As := [.int a1]) (st := []) eX11_feed_17 cv_11_138 (kX11_put X l a1 w) tR_0 rfl (by decide) rfl rfl (Nat.le_of_ble_eq_true rfl) (by decide) (fun r1 w2 => ?_)
    refine q_aload_n 0 eX11_feed_20 rfl rfl ?_
    refine q_iload_n 2 eX11_feed_21 rfl rfl ?_
    refine q_callVV (As := [.int a2]) (st := []) eX11_feed_22 cv_11_138 (kX11_put X l a2 w2) tR_0 rfl (by decide) rfl rfl (Nat.le_of_ble_eq_true rfl) (by decide) (fun r3 w4 => ?_)
    refine q_aload_n 0 eX11_feed_25 rfl rfl ?_
    refine q_iload_n 3 eX11_feed_26 rfl rfl ?_
    refine q_callVV (As := [.int a3]) (st := []) eX11_feed_27 cv_11_138 (kX11_put X l a3 w4) tR_0 rfl (by decide) rfl rfl (Nat.le_of_ble_eq_true rfl) (by decide) (fun r5 w6 => ?_)
    refine q_aload_n 0 eX11_feed_30 rfl rfl ?_
    refine q_iload 4 eX11_feed_31 rfl ?_
    refine q_callVV (As := [.int a4]) (st := []) eX11_feed_33 cv_11_138 (kX11_put X l a4 w6) tR_0 rfl (by decide) rfl rfl (Nat.le_of_ble_eq_true rfl) (by decide) (fun r7 w8 => ?_)
    refine q_aload_n 0 eX11_feed_36 rfl rfl ?_
    refine q_iload 5 eX11_feed_37 rfl ?_
    refine q_callVV (As := [.int a5]) (st := []) eX11_feed_39 cv_11_138 (kX11_put X l a5 w8) tR_0 rfl (by decide) rfl rfl (Nat.le_of_ble_eq_true rfl) (by decide) (fun r9 w10 => ?_)
    refine q_aload_n 0 eX11_feed_42 rfl rfl ?_
    refine q_getI eX11_feed_43 fl_11_135 tR_0 rfl ?_
    exact q_ireturn eX11_feed_46 rfl
  · refine q_iconst eX11_feed_13 kiconst_m1 ?_
    exact q_ireturn eX11_feed_14 rfl
def fX11_back (a1 : Int32) (w : q_W) : Option (Int32 × q_W) :=
  if a1 < 0 then
    some ((-1), w)
  else
    if a1 ≤ (w.1 0 2) then
      q_lt (q_sI w 0 2 ((w.1 0 2) - a1)) fun w1 =>
      some ((w1.1 0 2), w1)
    else
      some ((-1), w)
set_option maxHeartbeats 4000000 in
set_option maxRecDepth 100000 in
theorem kX11_back (X : q_X) (l : Launch) (a1 : Int32) (w : q_W) : q_Ct X S_R l mX11_back 0 q_tI [.ref 0, .int a1] w (fX11_back a1 w) := by
  refine q_intro (lv := [(0, .ref 0), (1, .int a1)]) (by decide +kernel) rfl (Nat.le_of_ble_eq_true rfl) rfl ?_
  refine q_iload_n 1 eX11_back_0 rfl rfl ?_
  refine q_if_lt (tgt := 12) eX11_back_1 (by decide) (fun _ => ?_) (fun _ => ?_)
  · refine q_iconst eX11_back_12 kiconst_m1 ?_
    exact q_ireturn eX11_back_13 rfl
  · refine q_iload_n 1 eX11_back_4 rfl rfl ?_
    refine q_aload_n 0 eX11_back_5 rfl rfl ?_
    refine q_getI eX11_back_6 fl_11_135 tR_0 rfl ?_
    refine q_icmp_le (tgt := 14) eX11_back_9 (by decide) (fun _ => ?_) (fun _ => ?_)
    · refine q_aload_n 0 eX11_back_14 rfl rfl ?_
      refine q_dup eX11_back_15 rfl ?_
      refine q_getI eX11_back_16 fl_11_135 tR_0 rfl ?_
      refine q_iload_n 1 eX11_back_19 rfl rfl ?_
      refine q_isub eX11_back_20 ?_
      refine q_putI eX11_back_21 fp_11_135 tR_0 rfl ⟨rfl, rfl⟩ ?_
      refine q_ltW (fun w1 => ?_)
      refine q_aload_n 0 eX11_back_24 rfl rfl ?_
      refine q_getI eX11_back_25 fl_11_135 tR_0 rfl ?_
      exact q_ireturn eX11_back_28 rfl
    · refine q_iconst eX11_back_12 kiconst_m1 ?_
      exact q_ireturn eX11_back_13 rfl
def fX11_at (a1 : Int32) (w : q_W) : Option (Int32 × q_W) :=
  if (w.1 0 4) ≤ a1 then
    some (0, w)
  else
    if q_inb a1 2000 then
    some (((w.1 2 (q_ix a1)) &&& 255), w)
    else none
set_option maxHeartbeats 4000000 in
set_option maxRecDepth 100000 in
theorem kX11_at (X : q_X) (l : Launch) (a1 : Int32) (w : q_W) : q_Ct X S_R l mX11_at 0 q_tI [.ref 0, .int a1] w (fX11_at a1 w) := by
  refine q_intro (lv := [(0, .ref 0), (1, .int a1)]) (by decide +kernel) rfl (Nat.le_of_ble_eq_true rfl) rfl ?_
  refine q_iload_n 1 eX11_at_0 rfl rfl ?_
  refine q_aload_n 0 eX11_at_1 rfl rfl ?_
  refine q_getI eX11_at_2 fl_11_142 tR_0 rfl ?_
  refine q_icmp_ge (tgt := 21) eX11_at_5 (by decide) (fun _ => ?_) (fun _ => ?_)
  · refine q_iconst eX11_at_21 kiconst_0 ?_
    exact q_ireturn eX11_at_22 rfl
  · refine q_aload_n 0 eX11_at_8 rfl rfl ?_
    refine q_getG (v := 2) eX11_at_9 fl_11_17 tR_0 rfl gR_0_3 ?_
    refine q_iload_n 1 eX11_at_12 rfl rfl ?_
    refine q_bald eX11_at_13 tR_2 nR_2 ?_
    refine q_sipush eX11_at_14 ksipush_255 ?_
    refine q_iand eX11_at_17 ?_
    refine q_goto (tgt := 22) eX11_at_18 (by decide) ?_
    exact q_ireturn eX11_at_22 rfl
def fX11_isDigit (a0 : Int32) (w : q_W) : Option (Int32 × q_W) :=
  if a0 < 48 then
    some (0, w)
  else
    if 57 < a0 then
      some (0, w)
    else
      some (1, w)
set_option maxHeartbeats 4000000 in
set_option maxRecDepth 100000 in
theorem kX11_isDigit (X : q_X) (l : Launch) (a0 : Int32) (w : q_W) : q_Ct X S_R l mX11_isDigit 0 q_tI [.int a0] w (fX11_isDigit a0 w) := by
  refine q_intro (lv := [(0, .int a0)]) (by decide +kernel) rfl (Nat.le_of_ble_eq_true rfl) rfl ?_
  refine q_iload_n 0 eX11_isDigit_0 rfl rfl ?_
  refine q_bipush eX11_isDigit_1 kbipush_48 ?_
  refine q_icmp_lt (tgt := 16) eX11_isDigit_3 (by decide) (fun _ => ?_) (fun _ => ?_)
  · refine q_iconst eX11_isDigit_16 kiconst_0 ?_
    exact q_zret eX11_isDigit_17 rfl rfl
  · refine q_iload_n 0 eX11_isDigit_6 rfl rfl ?_
    refine q_bipush eX11_isDigit_7 kbipush_57 ?_
    refine q_icmp_gt (tgt := 16) eX11_isDigit_9 (by decide) (fun _ => ?_) (fun _ => ?_)
    · refine q_iconst eX11_isDigit_16 kiconst_0 ?_
      exact q_zret eX11_isDigit_17 rfl rfl
    · refine q_iconst eX11_isDigit_12 kiconst_1 ?_
      refine q_goto (tgt := 17) eX11_isDigit_13 (by decide) ?_
      exact q_zret eX11_isDigit_17 rfl rfl
def fX11_isLetter (a0 : Int32) (w : q_W) : Option (Int32 × q_W) :=
  if a0 < 97 then
    some (0, w)
  else
    if 122 < a0 then
      some (0, w)
    else
      some (1, w)
set_option maxHeartbeats 4000000 in
set_option maxRecDepth 100000 in
theorem kX11_isLetter (X : q_X) (l : Launch) (a0 : Int32) (w : q_W) : q_Ct X S_R l mX11_isLetter 0 q_tI [.int a0] w (fX11_isLetter a0 w) := by
  refine q_intro (lv := [(0, .int a0)]) (by decide +kernel) rfl (Nat.le_of_ble_eq_true rfl) rfl ?_
  refine q_iload_n 0 eX11_isLetter_0 rfl rfl ?_
  refine q_bipush eX11_isLetter_1 kbipush_97 ?_
  refine q_icmp_lt (tgt := 16) eX11_isLetter_3 (by decide) (fun _ => ?_) (fun _ => ?_)
  · refine q_iconst eX11_isLetter_16 kiconst_0 ?_
    exact q_zret eX11_isLetter_17 rfl rfl
  · refine q_iload_n 0 eX11_isLetter_6 rfl rfl ?_
    refine q_bipush eX11_isLetter_7 kbipush_122 ?_
    refine q_icmp_gt (tgt := 16) eX11_isLetter_9 (by decide) (fun _ => ?_) (fun _ => ?_)
    · refine q_iconst eX11_isLetter_16 kiconst_0 ?_
      exact q_zret eX11_isLetter_17 rfl rfl
    · refine q_iconst eX11_isLetter_12 kiconst_1 ?_
      refine q_goto (tgt := 17) eX11_isLetter_13 (by decide) ?_
      exact q_zret eX11_isLetter_17 rfl rfl
def fX11_more (a0 : Int64) (a2 : Int32) (w : q_W) : Option (Int64 × q_W) :=
  if a2 = 0 then
    some (a0, w)
  else
    if 57 < a2 then
      some (((37 * a0) + (Int32.toInt64 ((a2 - 97) + 1))), w)
    else
      some (((37 * a0) + (Int32.toInt64 ((a2 - 48) + 27))), w)
set_option maxHeartbeats 4000000 in
set_option maxRecDepth 100000 in
theorem kX11_more (X : q_X) (l : Launch) (a0 : Int64) (a2 : Int32) (w : q_W) : q_Ct X S_R l mX11_more 0 q_tL [.long a0, .int a2] w (fX11_more a0 a2 w) := by
  refine q_intro (lv := [(0, .long a0), (2, .int a2)]) (by decide +kernel) rfl (Nat.le_of_ble_eq_true rfl) rfl ?_
  refine q_iload_n 1 eX11_more_0 rfl rfl ?_
  refine q_if_ne (tgt := 8) eX11_more_1 (by decide) (fun _ => ?_) (fun _ => ?_)
  · refine q_lload_n 0 eX11_more_4 rfl rfl ?_
    refine q_goto (tgt := 37) eX11_more_5 (by decide) ?_
    exact q_lreturn eX11_more_37 rfl
  · refine q_ldc2 eX11_more_8 kc_11_145 ?_
    refine q_lload_n 0 eX11_more_11 rfl rfl ?_
    refine q_lmul eX11_more_12 ?_
    refine q_iload_n 1 eX11_more_13 rfl rfl ?_
    refine q_bipush eX11_more_14 kbipush_57 ?_
    refine q_icmp_gt (tgt := 29) eX11_more_16 (by decide) (fun _ => ?_) (fun _ => ?_)
    · refine q_iload_n 1 eX11_more_29 rfl rfl ?_
      refine q_bipush eX11_more_30 kbipush_97 ?_
      refine q_isub eX11_more_32 ?_
      refine q_iconst eX11_more_33 kiconst_1 ?_
      refine q_iadd eX11_more_34 ?_
      refine q_i2l eX11_more_35 ?_
      refine q_ladd eX11_more_36 ?_
      exact q_lreturn eX11_more_37 rfl
    · refine q_iload_n 1 eX11_more_19 rfl rfl ?_
      refine q_bipush eX11_more_20 kbipush_48 ?_
      refine q_isub eX11_more_22 ?_
      refine q_bipush eX11_more_23 kbipush_27 ?_
      refine q_iadd eX11_more_25 ?_
      refine q_goto (tgt := 35) eX11_more_26 (by decide) ?_
      refine q_i2l eX11_more_35 ?_
      refine q_ladd eX11_more_36 ?_
      exact q_lreturn eX11_more_37 rfl
def fX11_word (a0 : Int32) (a1 : Int32) (a2 : Int32) (a3 : Int32) (a4 : Int32) (a5 : Int32) (a6 : Int32) (w : q_W) : Option (Int64 × q_W) :=
  q_b (fX11_more 0 a0 w) fun r1 w2 =>
  q_b (fX11_more r1 a1 w2) fun r3 w4 =>
  q_b (fX11_more r3 a2 w4) fun r5 w6 =>
  q_b (fX11_more r5 a3 w6) fun r7 w8 =>
  q_b (fX11_more r7 a4 w8) fun r9 w10 =>
  q_b (fX11_more r9 a5 w10) fun r11 w12 =>
  q_b (fX11_more r11 a6 w12) fun r13 w14 =>
  some (r13, w14)
set_option maxHeartbeats 4000000 in
set_option maxRecDepth 100000 in
theorem kX11_word (X : q_X) (l : Launch) (a0 : Int32) (a1 : Int32) (a2 : Int32) (a3 : Int32) (a4 : Int32) (a5 : Int32) (a6 : Int32) (w : q_W) : q_Ct X S_R l mX11_word 1 q_tL [.int a0, .int a1, .int a2, .int a3, .int a4, .int a5, .int a6] w (fX11_word a0 a1 a2 a3 a4 a5 a6 w) := by
  refine q_intro (lv := [(0, .int a0), (1, .int a1), (2, .int a2), (3, .int a3), (4, .int a4), (5, .int a5), (6, .int a6)]) (by decide +kernel) rfl (Nat.le_of_ble_eq_true rfl) rfl ?_
  refine q_lconst (v := 0) eX11_word_0 rfl ?_
  refine q_iload_n 0 eX11_word_1 rfl rfl ?_
  refine q_callSL (As := [.long 0, .int a0]) (st := []) eX11_word_2 cv_11_147 (kX11_more X l 0 a0 w) rfl rfl (Nat.le_of_ble_eq_true rfl) (by decide) (fun r1 w2 => ?_)
  refine q_iload_n 1 eX11_word_5 rfl rfl ?_
  refine q_callSL (As := [.long r1, .int a1]) (st := []) eX11_word_6 cv_11_147 (kX11_more X l r1 a1 w2) rfl rfl (Nat.le_of_ble_eq_true rfl) (by decide) (fun r3 w4 => ?_)
  refine q_iload_n 2 eX11_word_9 rfl rfl ?_
  refine q_callSL (As := [.long r3, .int a2]) (st := []) eX11_word_10 cv_11_147 (kX11_more X l r3 a2 w4) rfl rfl (Nat.le_of_ble_eq_true rfl) (by decide) (fun r5 w6 => ?_)
  refine q_iload_n 3 eX11_word_13 rfl rfl ?_
  refine q_callSL (As := [.long r5, .int a3]) (st := []) eX11_word_14 cv_11_147 (kX11_more X l r5 a3 w6) rfl rfl (Nat.le_of_ble_eq_true rfl) (by decide) (fun r7 w8 => ?_)
  refine q_iload 4 eX11_word_17 rfl ?_
  refine q_callSL (As := [.long r7, .int a4]) (st := []) eX11_word_19 cv_11_147 (kX11_more X l r7 a4 w8) rfl rfl (Nat.le_of_ble_eq_true rfl) (by decide) (fun r9 w10 => ?_)
  refine q_iload 5 eX11_word_22 rfl ?_
  refine q_callSL (As := [.long r9, .int a5]) (st := []) eX11_word_24 cv_11_147 (kX11_more X l r9 a5 w10) rfl rfl (Nat.le_of_ble_eq_true rfl) (by decide) (fun r11 w12 => ?_)
  refine q_iload 6 eX11_word_27 rfl ?_
  refine q_callSL (As := [.long r11, .int a6]) (st := []) eX11_word_29 cv_11_147 (kX11_more X l r11 a6 w12) rfl rfl (Nat.le_of_ble_eq_true rfl) (by decide) (fun r13 w14 => ?_)
  exact q_lreturn eX11_word_32 rfl
def fX11_token (a1 : Int32) (a2 : Int32) (a3 : Int32) (a4 : Int64) (w : q_W) : Option (Unit × q_W) :=
  q_lt (w.1 0 10) fun y1 =>
  if q_inb y1 503 then
  q_lt (q_sI w 3 (q_ix y1) a1) fun w2 =>
  q_lt (w2.1 0 10) fun y3 =>
  if q_inb y3 503 then
  q_lt (q_sI w2 4 (q_ix y3) a2) fun w4 =>
  q_lt (w4.1 0 10) fun y5 =>
  if q_inb y5 503 then
  q_lt (q_sI w4 5 (q_ix y5) a3) fun w6 =>
  q_lt (w6.1 0 10) fun y7 =>
  if q_inb y7 503 then
  q_lt (q_sL w6 6 (q_ix y7) a4) fun w8 =>
  q_lt (q_sI w8 0 10 ((w8.1 0 10) + 1)) fun w9 =>
  some ((), w9)
  else none
  else none
  else none
  else none
set_option maxHeartbeats 4000000 in
set_option maxRecDepth 100000 in
theorem kX11_token (X : q_X) (l : Launch) (a1 : Int32) (a2 : Int32) (a3 : Int32) (a4 : Int64) (w : q_W) : q_Ct X S_R l mX11_token 0 q_tV [.ref 0, .int a1, .int a2, .int a3, .long a4] w (fX11_token a1 a2 a3 a4 w) := by
  refine q_intro (lv := [(0, .ref 0), (1, .int a1), (2, .int a2), (3, .int a3), (4, .long a4)]) (by decide +kernel) rfl (Nat.le_of_ble_eq_true rfl) rfl ?_
  refine q_aload_n 0 eX11_token_0 rfl rfl ?_
  refine q_getG (v := 3) eX11_token_1 fl_11_20 tR_0 rfl gR_0_5 ?_
  refine q_aload_n 0 eX11_token_4 rfl rfl ?_
  refine q_getI eX11_token_5 fl_11_151 tR_0 rfl ?_
  refine q_iload_n 1 eX11_token_8 rfl rfl ?_
  refine q_ltI1 (fun y1 => ?_)
  refine q_iast eX11_token_9 tR_3 nR_3 ?_
  refine q_ltW (fun w2 => ?_)
  refine q_aload_n 0 eX11_token_10 rfl rfl ?_
  refine q_getG (v := 4) eX11_token_11 fl_11_24 tR_0 rfl gR_0_6 ?_
  refine q_aload_n 0 eX11_token_14 rfl rfl ?_
  refine q_getI eX11_token_15 fl_11_151 tR_0 rfl ?_
  refine q_iload_n 2 eX11_token_18 rfl rfl ?_
  refine q_ltI1 (fun y3 => ?_)
  refine q_iast eX11_token_19 tR_4 nR_4 ?_
  refine q_ltW (fun w4 => ?_)
  refine q_aload_n 0 eX11_token_20 rfl rfl ?_
  refine q_getG (v := 5) eX11_token_21 fl_11_27 tR_0 rfl gR_0_7 ?_
  refine q_aload_n 0 eX11_token_24 rfl rfl ?_
  refine q_getI eX11_token_25 fl_11_151 tR_0 rfl ?_
  refine q_iload_n 3 eX11_token_28 rfl rfl ?_
  refine q_ltI1 (fun y5 => ?_)
  refine q_iast eX11_token_29 tR_5 nR_5 ?_
  refine q_ltW (fun w6 => ?_)
  refine q_aload_n 0 eX11_token_30 rfl rfl ?_
  refine q_getG (v := 6) eX11_token_31 fl_11_30 tR_0 rfl gR_0_8 ?_
  refine q_aload_n 0 eX11_token_34 rfl rfl ?_
  refine q_getI eX11_token_35 fl_11_151 tR_0 rfl ?_
  refine q_lload 4 eX11_token_38 rfl ?_
  refine q_ltI1 (fun y7 => ?_)
  refine q_last eX11_token_40 tR_6 nR_6 ?_
  refine q_ltW (fun w8 => ?_)
  refine q_aload_n 0 eX11_token_41 rfl rfl ?_
  refine q_dup eX11_token_42 rfl ?_
  refine q_getI eX11_token_43 fl_11_151 tR_0 rfl ?_
  refine q_iconst eX11_token_46 kiconst_1 ?_
  refine q_iadd eX11_token_47 ?_
  refine q_putI eX11_token_48 fp_11_151 tR_0 rfl ⟨rfl, rfl⟩ ?_
  refine q_ltW (fun w9 => ?_)
  exact q_return eX11_token_51 rfl
def fX11_sign_n199 (x1 : Int32) (x4 : Int32) (x5 : Int32) (w : q_W) : Option (Int32 × q_W) :=
  q_b (fX11_token x5 x1 0 0 w) fun r1 w2 =>
  if x4 ≤ 0 then
    some (1, w2)
  else
    some (2, w2)
set_option maxHeartbeats 4000000 in
set_option maxRecDepth 100000 in
theorem jX11_sign_n199 (X : q_X) (l : Launch) (x1 : Int32) (x4 : Int32) (x5 : Int32) (w : q_W) : q_J X S_R l mX11_sign 1 q_tI 199 [(0, .ref 0), (1, .int x1), (4, .int x4), (5, .int x5)] [] w (fX11_sign_n199 x1 x4 x5 w) := by
  refine q_aload_n 0 eX11_sign_199 rfl rfl ?_
  refine q_iload 3 eX11_sign_200 rfl ?_
  refine q_iload_n 1 eX11_sign_202 rfl rfl ?_
  refine q_iconst eX11_sign_203 kiconst_0 ?_
  refine q_lconst (v := 0) eX11_sign_204 rfl ?_
  refine q_callVV (As := [.int x5, .int x1, .int 0, .long 0]) (st := []) eX11_sign_205 cv_11_158 (kX11_token X l x5 x1 0 0 w) tR_0 rfl (by decide) rfl rfl (Nat.le_of_ble_eq_true rfl) (by decide) (fun r1 w2 => ?_)
  refine q_iload 2 eX11_sign_208 rfl ?_
  refine q_if_le (tgt := 217) eX11_sign_210 (by decide) (fun _ => ?_) (fun _ => ?_)
  · refine q_iconst eX11_sign_217 kiconst_1 ?_
    exact q_ireturn eX11_sign_218 rfl
  · refine q_iconst eX11_sign_213 kiconst_2 ?_
    refine q_goto (tgt := 218) eX11_sign_214 (by decide) ?_
    exact q_ireturn eX11_sign_218 rfl
def fX11_sign_n44 (x1 : Int32) (x2 : Int32) (s0 : Int32) (w : q_W) : Option (Int32 × q_W) :=
  if s0 ≤ 0 then
    if x2 = 59 then
      fX11_sign_n199 x1 s0 4 w
    else
      if x2 = 40 then
        fX11_sign_n199 x1 s0 6 w
      else
        if x2 = 41 then
          fX11_sign_n199 x1 s0 7 w
        else
          if x2 = 43 then
            fX11_sign_n199 x1 s0 8 w
          else
            if x2 = 45 then
              fX11_sign_n199 x1 s0 9 w
            else
              if x2 = 42 then
                fX11_sign_n199 x1 s0 10 w
              else
                if x2 = 60 then
                  fX11_sign_n199 x1 s0 13 w
                else
                  if x2 = 44 then
                    fX11_sign_n199 x1 s0 5 w
                  else
                    if x2 = 47 then
                      fX11_sign_n199 x1 s0 15 w
                    else
                      if x2 = 37 then
                        fX11_sign_n199 x1 s0 16 w
                      else
                        if x2 = 61 then
                          fX11_sign_n199 x1 s0 17 w
                        else
                          fX11_sign_n199 x1 s0 3 w
  else
    fX11_sign_n199 x1 s0 s0 w
set_option maxHeartbeats 4000000 in
set_option maxRecDepth 100000 in
theorem jX11_sign_n44 (X : q_X) (l : Launch) (x1 : Int32) (x2 : Int32) (s0 : Int32) (w : q_W) : q_J X S_R l mX11_sign 1 q_tI 44 [(0, .ref 0), (1, .int x1), (2, .int x2)] [.int s0] w (fX11_sign_n44 x1 x2 s0 w) := by
  refine q_istore (lv' := [(4, .int s0), (0, .ref 0), (1, .int x1), (2, .int x2)]) eX11_sign_44 (by decide) rfl ?_
  refine q_iconst eX11_sign_46 kiconst_3 ?_
  refine q_istore (lv' := [(5, .int 3), (4, .int s0), (0, .ref 0), (1, .int x1), (2, .int x2)]) eX11_sign_47 (by decide) rfl ?_
  refine q_iload 1 eX11_sign_49 rfl ?_
  refine q_if_le (tgt := 61) eX11_sign_51 (by decide) (fun _ => ?_) (fun _ => ?_)
  · refine q_iload_n 4 eX11_sign_61 rfl rfl ?_
    refine q_bipush eX11_sign_62 kbipush_59 ?_
    refine q_icmp_ne (tgt := 73) eX11_sign_64 (by decide) (fun _ => ?_) (fun _ => ?_)
    · refine q_iconst eX11_sign_67 kiconst_4 ?_
      refine q_istore (lv' := [(5, .int 4), (4, .int s0), (0, .ref 0), (1, .int x1), (2, .int x2)]) eX11_sign_68 (by decide) rfl ?_
      refine q_goto (tgt := 199) eX11_sign_70 (by decide) ?_
      exact q_sub [2, 3, 1, 0] rfl (jX11_sign_n199 X l x1 s0 4 w)
    · refine q_iload_n 4 eX11_sign_73 rfl rfl ?_
      refine q_bipush eX11_sign_74 kbipush_40 ?_
      refine q_icmp_ne (tgt := 86) eX11_sign_76 (by decide) (fun _ => ?_) (fun _ => ?_)
      · refine q_bipush eX11_sign_79 kbipush_6 ?_
        refine q_istore (lv' := [(5, .int 6), (4, .int s0), (0, .ref 0), (1, .int x1), (2, .int x2)]) eX11_sign_81 (by decide) rfl ?_
        refine q_goto (tgt := 199) eX11_sign_83 (by decide) ?_
        exact q_sub [2, 3, 1, 0] rfl (jX11_sign_n199 X l x1 s0 6 w)
      · refine q_iload_n 4 eX11_sign_86 rfl rfl ?_
        refine q_bipush eX11_sign_87 kbipush_41 ?_
        refine q_icmp_ne (tgt := 99) eX11_sign_89 (by decide) (fun _ => ?_) (fun _ => ?_)
        · refine q_bipush eX11_sign_92 kbipush_7 ?_
          refine q_istore (lv' := [(5, .int 7), (4, .int s0), (0, .ref 0), (1, .int x1), (2, .int x2)]) eX11_sign_94 (by decide) rfl ?_
          refine q_goto (tgt := 199) eX11_sign_96 (by decide) ?_
          exact q_sub [2, 3, 1, 0] rfl (jX11_sign_n199 X l x1 s0 7 w)
        · refine q_iload_n 4 eX11_sign_99 rfl rfl ?_
          refine q_bipush eX11_sign_100 kbipush_43 ?_
          refine q_icmp_ne (tgt := 112) eX11_sign_102 (by decide) (fun _ => ?_) (fun _ => ?_)
          · refine q_bipush eX11_sign_105 kbipush_8 ?_
            refine q_istore (lv' := [(5, .int 8), (4, .int s0), (0, .ref 0), (1, .int x1), (2, .int x2)]) eX11_sign_107 (by decide) rfl ?_
            refine q_goto (tgt := 199) eX11_sign_109 (by decide) ?_
            exact q_sub [2, 3, 1, 0] rfl (jX11_sign_n199 X l x1 s0 8 w)
          · refine q_iload_n 4 eX11_sign_112 rfl rfl ?_
            refine q_bipush eX11_sign_113 kbipush_45 ?_
            refine q_icmp_ne (tgt := 125) eX11_sign_115 (by decide) (fun _ => ?_) (fun _ => ?_)
            · refine q_bipush eX11_sign_118 kbipush_9 ?_
              refine q_istore (lv' := [(5, .int 9), (4, .int s0), (0, .ref 0), (1, .int x1), (2, .int x2)]) eX11_sign_120 (by decide) rfl ?_
              refine q_goto (tgt := 199) eX11_sign_122 (by decide) ?_
              exact q_sub [2, 3, 1, 0] rfl (jX11_sign_n199 X l x1 s0 9 w)
            · refine q_iload_n 4 eX11_sign_125 rfl rfl ?_
              refine q_bipush eX11_sign_126 kbipush_42 ?_
              refine q_icmp_ne (tgt := 138) eX11_sign_128 (by decide) (fun _ => ?_) (fun _ => ?_)
              · refine q_bipush eX11_sign_131 kbipush_10 ?_
                refine q_istore (lv' := [(5, .int 10), (4, .int s0), (0, .ref 0), (1, .int x1), (2, .int x2)]) eX11_sign_133 (by decide) rfl ?_
                refine q_goto (tgt := 199) eX11_sign_135 (by decide) ?_
                exact q_sub [2, 3, 1, 0] rfl (jX11_sign_n199 X l x1 s0 10 w)
              · refine q_iload_n 4 eX11_sign_138 rfl rfl ?_
                refine q_bipush eX11_sign_139 kbipush_60 ?_
                refine q_icmp_ne (tgt := 151) eX11_sign_141 (by decide) (fun _ => ?_) (fun _ => ?_)
                · refine q_bipush eX11_sign_144 kbipush_13 ?_
                  refine q_istore (lv' := [(5, .int 13), (4, .int s0), (0, .ref 0), (1, .int x1), (2, .int x2)]) eX11_sign_146 (by decide) rfl ?_
                  refine q_goto (tgt := 199) eX11_sign_148 (by decide) ?_
                  exact q_sub [2, 3, 1, 0] rfl (jX11_sign_n199 X l x1 s0 13 w)
                · refine q_iload_n 4 eX11_sign_151 rfl rfl ?_
                  refine q_bipush eX11_sign_152 kbipush_44 ?_
                  refine q_icmp_ne (tgt := 163) eX11_sign_154 (by decide) (fun _ => ?_) (fun _ => ?_)
                  · refine q_iconst eX11_sign_157 kiconst_5 ?_
                    refine q_istore (lv' := [(5, .int 5), (4, .int s0), (0, .ref 0), (1, .int x1), (2, .int x2)]) eX11_sign_158 (by decide) rfl ?_
                    refine q_goto (tgt := 199) eX11_sign_160 (by decide) ?_
                    exact q_sub [2, 3, 1, 0] rfl (jX11_sign_n199 X l x1 s0 5 w)
                  · refine q_iload_n 4 eX11_sign_163 rfl rfl ?_
                    refine q_bipush eX11_sign_164 kbipush_47 ?_
                    refine q_icmp_ne (tgt := 176) eX11_sign_166 (by decide) (fun _ => ?_) (fun _ => ?_)
                    · refine q_bipush eX11_sign_169 kbipush_15 ?_
                      refine q_istore (lv' := [(5, .int 15), (4, .int s0), (0, .ref 0), (1, .int x1), (2, .int x2)]) eX11_sign_171 (by decide) rfl ?_
                      refine q_goto (tgt := 199) eX11_sign_173 (by decide) ?_
                      exact q_sub [2, 3, 1, 0] rfl (jX11_sign_n199 X l x1 s0 15 w)
                    · refine q_iload_n 4 eX11_sign_176 rfl rfl ?_
                      refine q_bipush eX11_sign_177 kbipush_37 ?_
                      refine q_icmp_ne (tgt := 189) eX11_sign_179 (by decide) (fun _ => ?_) (fun _ => ?_)
                      · refine q_bipush eX11_sign_182 kbipush_16 ?_
                        refine q_istore (lv' := [(5, .int 16), (4, .int s0), (0, .ref 0), (1, .int x1), (2, .int x2)]) eX11_sign_184 (by decide) rfl ?_
                        refine q_goto (tgt := 199) eX11_sign_186 (by decide) ?_
                        exact q_sub [2, 3, 1, 0] rfl (jX11_sign_n199 X l x1 s0 16 w)
                      · refine q_iload_n 4 eX11_sign_189 rfl rfl ?_
                        refine q_bipush eX11_sign_190 kbipush_61 ?_
                        refine q_icmp_ne (tgt := 199) eX11_sign_192 (by decide) (fun _ => ?_) (fun _ => ?_)
                        · refine q_bipush eX11_sign_195 kbipush_17 ?_
                          refine q_istore (lv' := [(5, .int 17), (4, .int s0), (0, .ref 0), (1, .int x1), (2, .int x2)]) eX11_sign_197 (by decide) rfl ?_
                          exact q_sub [2, 3, 1, 0] rfl (jX11_sign_n199 X l x1 s0 17 w)
                        · exact q_sub [2, 3, 1, 0] rfl (jX11_sign_n199 X l x1 s0 3 w)
  · refine q_iload 1 eX11_sign_54 rfl ?_
    refine q_istore (lv' := [(5, .int s0), (4, .int s0), (0, .ref 0), (1, .int x1), (2, .int x2)]) eX11_sign_56 (by decide) rfl ?_
    refine q_goto (tgt := 199) eX11_sign_58 (by decide) ?_
    exact q_sub [2, 3, 1, 0] rfl (jX11_sign_n199 X l x1 s0 s0 w)
def fX11_sign (a1 : Int32) (a2 : Int32) (a3 : Int32) (w : q_W) : Option (Int32 × q_W) :=
  if a3 = 61 then
    if a2 = 61 then
      fX11_sign_n44 a1 a2 11 w
    else
      if a2 = 33 then
        fX11_sign_n44 a1 a2 12 w
      else
        if a2 = 60 then
          fX11_sign_n44 a1 a2 14 w
        else
          fX11_sign_n44 a1 a2 0 w
  else
    fX11_sign_n44 a1 a2 0 w
set_option maxHeartbeats 4000000 in
set_option maxRecDepth 100000 in
theorem kX11_sign (X : q_X) (l : Launch) (a1 : Int32) (a2 : Int32) (a3 : Int32) (w : q_W) : q_Ct X S_R l mX11_sign 1 q_tI [.ref 0, .int a1, .int a2, .int a3] w (fX11_sign a1 a2 a3 w) := by
  refine q_intro (lv := [(0, .ref 0), (1, .int a1), (2, .int a2), (3, .int a3)]) (by decide +kernel) rfl (Nat.le_of_ble_eq_true rfl) rfl ?_
  refine q_iload_n 3 eX11_sign_0 rfl rfl ?_
  refine q_bipush eX11_sign_1 kbipush_61 ?_
  refine q_icmp_eq (tgt := 10) eX11_sign_3 (by decide) (fun _ => ?_) (fun _ => ?_)
  · refine q_iload_n 2 eX11_sign_10 rfl rfl ?_
    refine q_bipush eX11_sign_11 kbipush_61 ?_
    refine q_icmp_ne (tgt := 21) eX11_sign_13 (by decide) (fun _ => ?_) (fun _ => ?_)
    · refine q_bipush eX11_sign_16 kbipush_11 ?_
      refine q_goto (tgt := 44) eX11_sign_18 (by decide) ?_
      exact q_sub [0, 1, 2] rfl (jX11_sign_n44 X l a1 a2 11 w)
    · refine q_iload_n 2 eX11_sign_21 rfl rfl ?_
      refine q_bipush eX11_sign_22 kbipush_33 ?_
      refine q_icmp_ne (tgt := 32) eX11_sign_24 (by decide) (fun _ => ?_) (fun _ => ?_)
      · refine q_bipush eX11_sign_27 kbipush_12 ?_
        refine q_goto (tgt := 44) eX11_sign_29 (by decide) ?_
        exact q_sub [0, 1, 2] rfl (jX11_sign_n44 X l a1 a2 12 w)
      · refine q_iload_n 2 eX11_sign_32 rfl rfl ?_
        refine q_bipush eX11_sign_33 kbipush_60 ?_
        refine q_icmp_ne (tgt := 43) eX11_sign_35 (by decide) (fun _ => ?_) (fun _ => ?_)
        · refine q_bipush eX11_sign_38 kbipush_14 ?_
          refine q_goto (tgt := 44) eX11_sign_40 (by decide) ?_
          exact q_sub [0, 1, 2] rfl (jX11_sign_n44 X l a1 a2 14 w)
        · refine q_iconst eX11_sign_43 kiconst_0 ?_
          exact q_sub [0, 1, 2] rfl (jX11_sign_n44 X l a1 a2 0 w)
  · refine q_iconst eX11_sign_6 kiconst_0 ?_
    refine q_goto (tgt := 44) eX11_sign_7 (by decide) ?_
    exact q_sub [0, 1, 2] rfl (jX11_sign_n44 X l a1 a2 0 w)
def fX11_cut_n304 (rec7 : Int32 → q_W → Option (Unit × q_W)) (x1 : Int32) (w : q_W) : Option (Unit × q_W) :=
  rec7 x1 w
set_option maxHeartbeats 4000000 in
set_option maxRecDepth 100000 in
theorem jX11_cut_n304 (X : q_X) (l : Launch) (rec7 : Int32 → q_W → Option (Unit × q_W)) (hr7 : ∀ x1 w, q_J X S_R l mX11_cut 2 q_tV 7 [(0, .ref 0), (1, .int x1)] [] w (rec7 x1 w)) (x1 : Int32) (w : q_W) : q_J X S_R l mX11_cut 2 q_tV 304 [(0, .ref 0), (1, .int x1)] [] w (fX11_cut_n304 rec7 x1 w) := by
  refine q_goto (tgt := 7) eX11_cut_304 (by decide) ?_
  exact q_sub [0, 1] rfl (hr7 x1 w)
def fX11_cut_n274 (rec7 : Int32 → q_W → Option (Unit × q_W)) (x1 : Int32) (x3 : Int32) (x4 : Int32) (s0 : Int32) (w : q_W) : Option (Unit × q_W) :=
  q_b (fX11_token s0 x1 x4 0 w) fun r1 w2 =>
  q_lt (x1 + x3) fun y3 =>
  fX11_cut_n304 rec7 y3 w2
set_option maxHeartbeats 4000000 in
set_option maxRecDepth 100000 in
theorem jX11_cut_n274 (X : q_X) (l : Launch) (rec7 : Int32 → q_W → Option (Unit × q_W)) (hr7 : ∀ x1 w, q_J X S_R l mX11_cut 2 q_tV 7 [(0, .ref 0), (1, .int x1)] [] w (rec7 x1 w)) (x1 : Int32) (x3 : Int32) (x4 : Int32) (s0 : Int32) (w : q_W) : q_J X S_R l mX11_cut 2 q_tV 274 [(0, .ref 0), (1, .int x1), (3, .int x3), (4, .int x4)] [.int s0, .ref 0] w (fX11_cut_n274 rec7 x1 x3 x4 s0 w) := by
  refine q_iload_n 1 eX11_cut_274 rfl rfl ?_
  refine q_iload 3 eX11_cut_275 rfl ?_
  refine q_lconst (v := 0) eX11_cut_277 rfl ?_
  refine q_callVV (As := [.int s0, .int x1, .int x4, .long 0]) (st := []) eX11_cut_278 cv_11_158 (kX11_token X l s0 x1 x4 0 w) tR_0 rfl (by decide) rfl rfl (Nat.le_of_ble_eq_true rfl) (by decide) (fun r1 w2 => ?_)
  refine q_iload_n 1 eX11_cut_281 rfl rfl ?_
  refine q_iload_n 2 eX11_cut_282 rfl rfl ?_
  refine q_iadd eX11_cut_283 ?_
  refine q_ltI (fun y3 => ?_)
  refine q_istore_n (lv' := [(1, .int y3), (0, .ref 0), (3, .int x3), (4, .int x4)]) eX11_cut_284 rfl (by decide) rfl ?_
  refine q_goto (tgt := 304) eX11_cut_285 (by decide) ?_
  exact q_sub [1, 0] rfl (jX11_cut_n304 X l rec7 hr7 y3 w2)
def fX11_cut_n257 (rec7 : Int32 → q_W → Option (Unit × q_W)) (rec221 : Int32 → Int32 → Int32 → q_W → Option (Unit × q_W)) (x1 : Int32) (x3 : Int32) (x4 : Int32) (w : q_W) : Option (Unit × q_W) :=
  q_lt (x3 + 1) fun y1 =>
  rec221 x1 y1 x4 w
set_option maxHeartbeats 4000000 in
set_option maxRecDepth 100000 in
theorem jX11_cut_n257 (X : q_X) (l : Launch) (rec7 : Int32 → q_W → Option (Unit × q_W)) (rec221 : Int32 → Int32 → Int32 → q_W → Option (Unit × q_W)) (hr7 : ∀ x1 w, q_J X S_R l mX11_cut 2 q_tV 7 [(0, .ref 0), (1, .int x1)] [] w (rec7 x1 w)) (hr221 : ∀ x1 x3 x4 w, q_J X S_R l mX11_cut 2 q_tV 221 [(0, .ref 0), (1, .int x1), (3, .int x3), (4, .int x4)] [] w (rec221 x1 x3 x4 w)) (x1 : Int32) (x3 : Int32) (x4 : Int32) (w : q_W) : q_J X S_R l mX11_cut 2 q_tV 257 [(0, .ref 0), (1, .int x1), (3, .int x3), (4, .int x4)] [] w (fX11_cut_n257 rec7 rec221 x1 x3 x4 w) := by
  refine q_ltE (fun y1 hy1 => ?_)
  refine q_iinc (v := y1) (lv' := [(3, .int y1), (0, .ref 0), (1, .int x1), (4, .int x4)]) 2 eX11_cut_257 rfl hy1 (by decide) rfl ?_
  refine q_goto (tgt := 221) eX11_cut_260 (by decide) ?_
  exact q_sub [1, 2, 0, 3] rfl (hr221 x1 y1 x4 w)
def fX11_cut_h221 (rec7 : Int32 → q_W → Option (Unit × q_W)) (rec221 : Int32 → Int32 → Int32 → q_W → Option (Unit × q_W)) (x1 : Int32) (x3 : Int32) (x4 : Int32) (w : q_W) : Option (Unit × q_W) :=
  q_b (fX11_at (x1 + x3) w) fun r1 w2 =>
  q_b (fX11_isDigit r1 w2) fun r3 w4 =>
  if r3 = 0 then
    if x3 ≤ 4 then
      fX11_cut_n274 rec7 x1 x3 x4 2 w4
    else
      fX11_cut_n274 rec7 x1 x3 x4 3 w4
  else
    if 4 ≤ x3 then
      fX11_cut_n257 rec7 rec221 x1 x3 x4 w4
    else
      q_b (fX11_at (x1 + x3) w4) fun r5 w6 =>
      q_lt (((10 * x4) + r5) - 48) fun y7 =>
      fX11_cut_n257 rec7 rec221 x1 x3 y7 w6
def fX11_cut_l221 (rec7 : Int32 → q_W → Option (Unit × q_W)) : Int32 → Int32 → Int32 → q_W → Option (Unit × q_W) := q_it q_N (fX11_cut_h221 rec7) (fun _ _ _ _ => none)
set_option maxHeartbeats 4000000 in
set_option maxRecDepth 100000 in
theorem jX11_cut_h221 (X : q_X) (l : Launch) (rec7 : Int32 → q_W → Option (Unit × q_W)) (hr7 : ∀ x1 w, q_J X S_R l mX11_cut 2 q_tV 7 [(0, .ref 0), (1, .int x1)] [] w (rec7 x1 w)) (rec221 : Int32 → Int32 → Int32 → q_W → Option (Unit × q_W)) (hr221 : ∀ x1 x3 x4 w, q_J X S_R l mX11_cut 2 q_tV 221 [(0, .ref 0), (1, .int x1), (3, .int x3), (4, .int x4)] [] w (rec221 x1 x3 x4 w)) : ∀ x1 x3 x4 w, q_J X S_R l mX11_cut 2 q_tV 221 [(0, .ref 0), (1, .int x1), (3, .int x3), (4, .int x4)] [] w (fX11_cut_h221 rec7 rec221 x1 x3 x4 w) := by
  intro x1 x3 x4 w
  refine q_aload_n 0 eX11_cut_221 rfl rfl ?_
  refine q_iload_n 1 eX11_cut_222 rfl rfl ?_
  refine q_iload_n 2 eX11_cut_223 rfl rfl ?_
  refine q_iadd eX11_cut_224 ?_
  refine q_callVI (As := [.int (x1 + x3)]) (st := []) eX11_cut_225 cv_11_154 (kX11_at X l (x1 + x3) w) tR_0 rfl (by decide) rfl rfl (Nat.le_of_ble_eq_true rfl) (by decide) (fun r1 w2 => ?_)
  refine q_callSI (As := [.int r1]) (st := []) eX11_cut_228 cv_11_166 (kX11_isDigit X l r1 w2) rfl rfl (Nat.le_of_ble_eq_true rfl) (by decide) (fun r3 w4 => ?_)
  refine q_if_eq (tgt := 263) eX11_cut_231 (by decide) (fun _ => ?_) (fun _ => ?_)
  · refine q_aload_n 0 eX11_cut_263 rfl rfl ?_
    refine q_iload_n 2 eX11_cut_264 rfl rfl ?_
    refine q_iconst eX11_cut_265 kiconst_4 ?_
    refine q_icmp_le (tgt := 273) eX11_cut_266 (by decide) (fun _ => ?_) (fun _ => ?_)
    · refine q_iconst eX11_cut_273 kiconst_2 ?_
      exact q_sub [0, 1, 2, 3] rfl (jX11_cut_n274 X l rec7 hr7 x1 x3 x4 2 w4)
    · refine q_iconst eX11_cut_269 kiconst_3 ?_
      refine q_goto (tgt := 274) eX11_cut_270 (by decide) ?_
      exact q_sub [0, 1, 2, 3] rfl (jX11_cut_n274 X l rec7 hr7 x1 x3 x4 3 w4)
  · refine q_iload_n 2 eX11_cut_234 rfl rfl ?_
    refine q_iconst eX11_cut_235 kiconst_4 ?_
    refine q_icmp_ge (tgt := 257) eX11_cut_236 (by decide) (fun _ => ?_) (fun _ => ?_)
    · exact q_sub [0, 1, 2, 3] rfl (jX11_cut_n257 X l rec7 rec221 hr7 hr221 x1 x3 x4 w4)
    · refine q_bipush eX11_cut_239 kbipush_10 ?_
      refine q_iload 3 eX11_cut_241 rfl ?_
      refine q_imul eX11_cut_243 ?_
      refine q_aload_n 0 eX11_cut_244 rfl rfl ?_
      refine q_iload_n 1 eX11_cut_245 rfl rfl ?_
      refine q_iload_n 2 eX11_cut_246 rfl rfl ?_
      refine q_iadd eX11_cut_247 ?_
      refine q_callVI (As := [.int (x1 + x3)]) (st := [.int (10 * x4)]) eX11_cut_248 cv_11_154 (kX11_at X l (x1 + x3) w4) tR_0 rfl (by decide) rfl rfl (Nat.le_of_ble_eq_true rfl) (by decide) (fun r5 w6 => ?_)
      refine q_iadd eX11_cut_251 ?_
      refine q_bipush eX11_cut_252 kbipush_48 ?_
      refine q_isub eX11_cut_254 ?_
      refine q_ltI (fun y7 => ?_)
      refine q_istore (lv' := [(4, .int y7), (0, .ref 0), (1, .int x1), (3, .int x3)]) eX11_cut_255 (by decide) rfl ?_
      exact q_sub [1, 2, 3, 0] rfl (jX11_cut_n257 X l rec7 rec221 hr7 hr221 x1 x3 y7 w6)
set_option maxHeartbeats 4000000 in
set_option maxRecDepth 100000 in
theorem jX11_cut_l221 (X : q_X) (l : Launch) (rec7 : Int32 → q_W → Option (Unit × q_W)) (hr7 : ∀ x1 w, q_J X S_R l mX11_cut 2 q_tV 7 [(0, .ref 0), (1, .int x1)] [] w (rec7 x1 w)) : ∀ x1 x3 x4 w, q_J X S_R l mX11_cut 2 q_tV 221 [(0, .ref 0), (1, .int x1), (3, .int x3), (4, .int x4)] [] w (fX11_cut_l221 rec7 x1 x3 x4 w) := by
  exact q_it_ind (fun rc => ∀ x1 x3 x4 w, q_J X S_R l mX11_cut 2 q_tV 221 [(0, .ref 0), (1, .int x1), (3, .int x3), (4, .int x4)] [] w (rc x1 x3 x4 w)) _ _ (fun _ _ _ _ => q_none) (fun rc hrc => jX11_cut_h221 X l rec7 hr7 rc hrc) q_N
def fX11_cut_n192 (rec7 : Int32 → q_W → Option (Unit × q_W)) (x1 : Int32) (x3 : Int32) (x4 : Int64) (x6 : Int32) (w : q_W) : Option (Unit × q_W) :=
  q_b (fX11_token x6 x1 0 x4 w) fun r1 w2 =>
  q_lt (x1 + x3) fun y3 =>
  fX11_cut_n304 rec7 y3 w2
set_option maxHeartbeats 4000000 in
set_option maxRecDepth 100000 in
theorem jX11_cut_n192 (X : q_X) (l : Launch) (rec7 : Int32 → q_W → Option (Unit × q_W)) (hr7 : ∀ x1 w, q_J X S_R l mX11_cut 2 q_tV 7 [(0, .ref 0), (1, .int x1)] [] w (rec7 x1 w)) (x1 : Int32) (x3 : Int32) (x4 : Int64) (x6 : Int32) (w : q_W) : q_J X S_R l mX11_cut 2 q_tV 192 [(0, .ref 0), (1, .int x1), (3, .int x3), (4, .long x4), (6, .int x6)] [] w (fX11_cut_n192 rec7 x1 x3 x4 x6 w) := by
  refine q_aload_n 0 eX11_cut_192 rfl rfl ?_
  refine q_iload 4 eX11_cut_193 rfl ?_
  refine q_iload_n 1 eX11_cut_195 rfl rfl ?_
  refine q_iconst eX11_cut_196 kiconst_0 ?_
  refine q_lload 3 eX11_cut_197 rfl ?_
  refine q_callVV (As := [.int x6, .int x1, .int 0, .long x4]) (st := []) eX11_cut_199 cv_11_158 (kX11_token X l x6 x1 0 x4 w) tR_0 rfl (by decide) rfl rfl (Nat.le_of_ble_eq_true rfl) (by decide) (fun r1 w2 => ?_)
  refine q_iload_n 1 eX11_cut_202 rfl rfl ?_
  refine q_iload_n 2 eX11_cut_203 rfl rfl ?_
  refine q_iadd eX11_cut_204 ?_
  refine q_ltI (fun y3 => ?_)
  refine q_istore_n (lv' := [(1, .int y3), (0, .ref 0), (3, .int x3), (4, .long x4), (6, .int x6)]) eX11_cut_205 rfl (by decide) rfl ?_
  refine q_goto (tgt := 304) eX11_cut_206 (by decide) ?_
  exact q_sub [1, 0] rfl (jX11_cut_n304 X l rec7 hr7 y3 w2)
def fX11_cut_n186 (rec7 : Int32 → q_W → Option (Unit × q_W)) (rec159 : Int32 → Int32 → Int64 → Int32 → Int32 → q_W → Option (Unit × q_W)) (x1 : Int32) (x3 : Int32) (x4 : Int64) (x6 : Int32) (x7 : Int32) (w : q_W) : Option (Unit × q_W) :=
  q_lt (x7 + 1) fun y1 =>
  rec159 x1 x3 x4 x6 y1 w
set_option maxHeartbeats 4000000 in
set_option maxRecDepth 100000 in
theorem jX11_cut_n186 (X : q_X) (l : Launch) (rec7 : Int32 → q_W → Option (Unit × q_W)) (rec159 : Int32 → Int32 → Int64 → Int32 → Int32 → q_W → Option (Unit × q_W)) (hr7 : ∀ x1 w, q_J X S_R l mX11_cut 2 q_tV 7 [(0, .ref 0), (1, .int x1)] [] w (rec7 x1 w)) (hr159 : ∀ x1 x3 x4 x6 x7 w, q_J X S_R l mX11_cut 2 q_tV 159 [(0, .ref 0), (1, .int x1), (3, .int x3), (4, .long x4), (6, .int x6), (7, .int x7)] [] w (rec159 x1 x3 x4 x6 x7 w)) (x1 : Int32) (x3 : Int32) (x4 : Int64) (x6 : Int32) (x7 : Int32) (w : q_W) : q_J X S_R l mX11_cut 2 q_tV 186 [(0, .ref 0), (1, .int x1), (3, .int x3), (4, .long x4), (6, .int x6), (7, .int x7)] [] w (fX11_cut_n186 rec7 rec159 x1 x3 x4 x6 x7 w) := by
  refine q_ltE (fun y1 hy1 => ?_)
  refine q_iinc (v := y1) (lv' := [(7, .int y1), (0, .ref 0), (1, .int x1), (3, .int x3), (4, .long x4), (6, .int x6)]) 5 eX11_cut_186 rfl hy1 (by decide) rfl ?_
  refine q_goto (tgt := 159) eX11_cut_189 (by decide) ?_
  exact q_sub [1, 2, 3, 4, 5, 0] rfl (hr159 x1 x3 x4 x6 y1 w)
def fX11_cut_h159 (rec7 : Int32 → q_W → Option (Unit × q_W)) (rec159 : Int32 → Int32 → Int64 → Int32 → Int32 → q_W → Option (Unit × q_W)) (x1 : Int32) (x3 : Int32) (x4 : Int64) (x6 : Int32) (x7 : Int32) (w : q_W) : Option (Unit × q_W) :=
  if 15 ≤ x7 then
    fX11_cut_n192 rec7 x1 x3 x4 x6 w
  else
    if q_inb x7 15 then
    if (lg_cmp (w.2.2 7 (q_ix x7)) x4) = 0 then
      q_lt (20 + x7) fun y1 =>
      fX11_cut_n186 rec7 rec159 x1 x3 x4 y1 x7 w
    else
      fX11_cut_n186 rec7 rec159 x1 x3 x4 x6 x7 w
    else none
def fX11_cut_l159 (rec7 : Int32 → q_W → Option (Unit × q_W)) : Int32 → Int32 → Int64 → Int32 → Int32 → q_W → Option (Unit × q_W) := q_it q_N (fX11_cut_h159 rec7) (fun _ _ _ _ _ _ => none)
set_option maxHeartbeats 4000000 in
set_option maxRecDepth 100000 in
theorem jX11_cut_h159 (X : q_X) (l : Launch) (rec7 : Int32 → q_W → Option (Unit × q_W)) (hr7 : ∀ x1 w, q_J X S_R l mX11_cut 2 q_tV 7 [(0, .ref 0), (1, .int x1)] [] w (rec7 x1 w)) (rec159 : Int32 → Int32 → Int64 → Int32 → Int32 → q_W → Option (Unit × q_W)) (hr159 : ∀ x1 x3 x4 x6 x7 w, q_J X S_R l mX11_cut 2 q_tV 159 [(0, .ref 0), (1, .int x1), (3, .int x3), (4, .long x4), (6, .int x6), (7, .int x7)] [] w (rec159 x1 x3 x4 x6 x7 w)) : ∀ x1 x3 x4 x6 x7 w, q_J X S_R l mX11_cut 2 q_tV 159 [(0, .ref 0), (1, .int x1), (3, .int x3), (4, .long x4), (6, .int x6), (7, .int x7)] [] w (fX11_cut_h159 rec7 rec159 x1 x3 x4 x6 x7 w) := by
  intro x1 x3 x4 x6 x7 w
  refine q_iload 5 eX11_cut_159 rfl ?_
  refine q_bipush eX11_cut_161 kbipush_15 ?_
  refine q_icmp_ge (tgt := 192) eX11_cut_163 (by decide) (fun _ => ?_) (fun _ => ?_)
  · exact q_sub [0, 1, 2, 3, 4] rfl (jX11_cut_n192 X l rec7 hr7 x1 x3 x4 x6 w)
  · refine q_aload_n 0 eX11_cut_166 rfl rfl ?_
    refine q_getG (v := 7) eX11_cut_167 fl_11_34 tR_0 rfl gR_0_9 ?_
    refine q_iload 5 eX11_cut_170 rfl ?_
    refine q_lald eX11_cut_172 tR_7 nR_7 ?_
    refine q_lload 3 eX11_cut_173 rfl ?_
    refine q_lcmp eX11_cut_175 ?_
    refine q_if_ne (tgt := 186) eX11_cut_176 (by decide) (fun _ => ?_) (fun _ => ?_)
    · refine q_bipush eX11_cut_179 kbipush_20 ?_
      refine q_iload 5 eX11_cut_181 rfl ?_
      refine q_iadd eX11_cut_183 ?_
      refine q_ltI (fun y1 => ?_)
      refine q_istore (lv' := [(6, .int y1), (0, .ref 0), (1, .int x1), (3, .int x3), (4, .long x4), (7, .int x7)]) eX11_cut_184 (by decide) rfl ?_
      exact q_sub [1, 2, 3, 4, 0, 5] rfl (jX11_cut_n186 X l rec7 rec159 hr7 hr159 x1 x3 x4 y1 x7 w)
    · exact q_sub [0, 1, 2, 3, 4, 5] rfl (jX11_cut_n186 X l rec7 rec159 hr7 hr159 x1 x3 x4 x6 x7 w)
set_option maxHeartbeats 4000000 in
set_option maxRecDepth 100000 in
theorem jX11_cut_l159 (X : q_X) (l : Launch) (rec7 : Int32 → q_W → Option (Unit × q_W)) (hr7 : ∀ x1 w, q_J X S_R l mX11_cut 2 q_tV 7 [(0, .ref 0), (1, .int x1)] [] w (rec7 x1 w)) : ∀ x1 x3 x4 x6 x7 w, q_J X S_R l mX11_cut 2 q_tV 159 [(0, .ref 0), (1, .int x1), (3, .int x3), (4, .long x4), (6, .int x6), (7, .int x7)] [] w (fX11_cut_l159 rec7 x1 x3 x4 x6 x7 w) := by
  exact q_it_ind (fun rc => ∀ x1 x3 x4 x6 x7 w, q_J X S_R l mX11_cut 2 q_tV 159 [(0, .ref 0), (1, .int x1), (3, .int x3), (4, .long x4), (6, .int x6), (7, .int x7)] [] w (rc x1 x3 x4 x6 x7 w)) _ _ (fun _ _ _ _ _ _ => q_none) (fun rc hrc => jX11_cut_h159 X l rec7 hr7 rc hrc) q_N
def fX11_cut_n148 (rec7 : Int32 → q_W → Option (Unit × q_W)) (x1 : Int32) (x3 : Int32) (x4 : Int64) (s0 : Int32) (w : q_W) : Option (Unit × q_W) :=
  if 7 < x3 then
    fX11_cut_n192 rec7 x1 x3 x4 s0 w
  else
    fX11_cut_l159 rec7 x1 x3 x4 s0 0 w
set_option maxHeartbeats 4000000 in
set_option maxRecDepth 100000 in
theorem jX11_cut_n148 (X : q_X) (l : Launch) (rec7 : Int32 → q_W → Option (Unit × q_W)) (hr7 : ∀ x1 w, q_J X S_R l mX11_cut 2 q_tV 7 [(0, .ref 0), (1, .int x1)] [] w (rec7 x1 w)) (x1 : Int32) (x3 : Int32) (x4 : Int64) (s0 : Int32) (w : q_W) : q_J X S_R l mX11_cut 2 q_tV 148 [(0, .ref 0), (1, .int x1), (3, .int x3), (4, .long x4)] [.int s0] w (fX11_cut_n148 rec7 x1 x3 x4 s0 w) := by
  refine q_istore (lv' := [(6, .int s0), (0, .ref 0), (1, .int x1), (3, .int x3), (4, .long x4)]) eX11_cut_148 (by decide) rfl ?_
  refine q_iload_n 3 eX11_cut_150 rfl rfl ?_
  refine q_bipush eX11_cut_151 kbipush_7 ?_
  refine q_icmp_gt (tgt := 192) eX11_cut_153 (by decide) (fun _ => ?_) (fun _ => ?_)
  · exact q_sub [1, 2, 3, 4, 0] rfl (jX11_cut_n192 X l rec7 hr7 x1 x3 x4 s0 w)
  · refine q_iconst eX11_cut_156 kiconst_0 ?_
    refine q_istore (lv' := [(7, .int 0), (6, .int s0), (0, .ref 0), (1, .int x1), (3, .int x3), (4, .long x4)]) eX11_cut_157 (by decide) rfl ?_
    exact q_sub [2, 3, 4, 5, 1, 0] rfl (jX11_cut_l159 X l rec7 hr7 x1 x3 x4 s0 0 w)
def fX11_cut_n131 (rec7 : Int32 → q_W → Option (Unit × q_W)) (rec85 : Int32 → Int32 → Int64 → q_W → Option (Unit × q_W)) (x1 : Int32) (x3 : Int32) (x4 : Int64) (w : q_W) : Option (Unit × q_W) :=
  q_lt (x3 + 1) fun y1 =>
  rec85 x1 y1 x4 w
set_option maxHeartbeats 4000000 in
set_option maxRecDepth 100000 in
theorem jX11_cut_n131 (X : q_X) (l : Launch) (rec7 : Int32 → q_W → Option (Unit × q_W)) (rec85 : Int32 → Int32 → Int64 → q_W → Option (Unit × q_W)) (hr7 : ∀ x1 w, q_J X S_R l mX11_cut 2 q_tV 7 [(0, .ref 0), (1, .int x1)] [] w (rec7 x1 w)) (hr85 : ∀ x1 x3 x4 w, q_J X S_R l mX11_cut 2 q_tV 85 [(0, .ref 0), (1, .int x1), (3, .int x3), (4, .long x4)] [] w (rec85 x1 x3 x4 w)) (x1 : Int32) (x3 : Int32) (x4 : Int64) (w : q_W) : q_J X S_R l mX11_cut 2 q_tV 131 [(0, .ref 0), (1, .int x1), (3, .int x3), (4, .long x4)] [] w (fX11_cut_n131 rec7 rec85 x1 x3 x4 w) := by
  refine q_ltE (fun y1 hy1 => ?_)
  refine q_iinc (v := y1) (lv' := [(3, .int y1), (0, .ref 0), (1, .int x1), (4, .long x4)]) 2 eX11_cut_131 rfl hy1 (by decide) rfl ?_
  refine q_goto (tgt := 85) eX11_cut_134 (by decide) ?_
  exact q_sub [1, 2, 0, 3] rfl (hr85 x1 y1 x4 w)
def fX11_cut_n111 (rec7 : Int32 → q_W → Option (Unit × q_W)) (rec85 : Int32 → Int32 → Int64 → q_W → Option (Unit × q_W)) (x1 : Int32) (x3 : Int32) (x4 : Int64) (w : q_W) : Option (Unit × q_W) :=
  if 8 ≤ x3 then
    fX11_cut_n131 rec7 rec85 x1 x3 x4 w
  else
    q_b (fX11_at (x1 + x3) w) fun r1 w2 =>
    q_b (fX11_more x4 r1 w2) fun r3 w4 =>
    fX11_cut_n131 rec7 rec85 x1 x3 r3 w4
set_option maxHeartbeats 4000000 in
set_option maxRecDepth 100000 in
theorem jX11_cut_n111 (X : q_X) (l : Launch) (rec7 : Int32 → q_W → Option (Unit × q_W)) (rec85 : Int32 → Int32 → Int64 → q_W → Option (Unit × q_W)) (hr7 : ∀ x1 w, q_J X S_R l mX11_cut 2 q_tV 7 [(0, .ref 0), (1, .int x1)] [] w (rec7 x1 w)) (hr85 : ∀ x1 x3 x4 w, q_J X S_R l mX11_cut 2 q_tV 85 [(0, .ref 0), (1, .int x1), (3, .int x3), (4, .long x4)] [] w (rec85 x1 x3 x4 w)) (x1 : Int32) (x3 : Int32) (x4 : Int64) (w : q_W) : q_J X S_R l mX11_cut 2 q_tV 111 [(0, .ref 0), (1, .int x1), (3, .int x3), (4, .long x4)] [] w (fX11_cut_n111 rec7 rec85 x1 x3 x4 w) := by
  refine q_iload_n 2 eX11_cut_111 rfl rfl ?_
  refine q_bipush eX11_cut_112 kbipush_8 ?_
  refine q_icmp_ge (tgt := 131) eX11_cut_114 (by decide) (fun _ => ?_) (fun _ => ?_)
  · exact q_sub [0, 1, 2, 3] rfl (jX11_cut_n131 X l rec7 rec85 hr7 hr85 x1 x3 x4 w)
  · refine q_lload 3 eX11_cut_117 rfl ?_
    refine q_aload_n 0 eX11_cut_119 rfl rfl ?_
    refine q_iload_n 1 eX11_cut_120 rfl rfl ?_
    refine q_iload_n 2 eX11_cut_121 rfl rfl ?_
    refine q_iadd eX11_cut_122 ?_
    refine q_callVI (As := [.int (x1 + x3)]) (st := [.long x4]) eX11_cut_123 cv_11_154 (kX11_at X l (x1 + x3) w) tR_0 rfl (by decide) rfl rfl (Nat.le_of_ble_eq_true rfl) (by decide) (fun r1 w2 => ?_)
    refine q_callSL (As := [.long x4, .int r1]) (st := []) eX11_cut_126 cv_11_147 (kX11_more X l x4 r1 w2) rfl rfl (Nat.le_of_ble_eq_true rfl) (by decide) (fun r3 w4 => ?_)
    refine q_lstore (lv' := [(4, .long r3), (0, .ref 0), (1, .int x1), (3, .int x3)]) eX11_cut_129 (by decide) rfl ?_
    exact q_sub [1, 2, 3, 0] rfl (jX11_cut_n131 X l rec7 rec85 hr7 hr85 x1 x3 r3 w4)
def fX11_cut_h85 (rec7 : Int32 → q_W → Option (Unit × q_W)) (rec85 : Int32 → Int32 → Int64 → q_W → Option (Unit × q_W)) (x1 : Int32) (x3 : Int32) (x4 : Int64) (w : q_W) : Option (Unit × q_W) :=
  q_b (fX11_at (x1 + x3) w) fun r1 w2 =>
  q_b (fX11_isLetter r1 w2) fun r3 w4 =>
  if r3 = 0 then
    q_b (fX11_at (x1 + x3) w4) fun r5 w6 =>
    q_b (fX11_isDigit r5 w6) fun r7 w8 =>
    if r7 = 0 then
      if x3 ≤ 8 then
        fX11_cut_n148 rec7 x1 x3 x4 1 w8
      else
        fX11_cut_n148 rec7 x1 x3 x4 3 w8
    else
      fX11_cut_n111 rec7 rec85 x1 x3 x4 w8
  else
    fX11_cut_n111 rec7 rec85 x1 x3 x4 w4
def fX11_cut_l85 (rec7 : Int32 → q_W → Option (Unit × q_W)) : Int32 → Int32 → Int64 → q_W → Option (Unit × q_W) := q_it q_N (fX11_cut_h85 rec7) (fun _ _ _ _ => none)
set_option maxHeartbeats 4000000 in
set_option maxRecDepth 100000 in
theorem jX11_cut_h85 (X : q_X) (l : Launch) (rec7 : Int32 → q_W → Option (Unit × q_W)) (hr7 : ∀ x1 w, q_J X S_R l mX11_cut 2 q_tV 7 [(0, .ref 0), (1, .int x1)] [] w (rec7 x1 w)) (rec85 : Int32 → Int32 → Int64 → q_W → Option (Unit × q_W)) (hr85 : ∀ x1 x3 x4 w, q_J X S_R l mX11_cut 2 q_tV 85 [(0, .ref 0), (1, .int x1), (3, .int x3), (4, .long x4)] [] w (rec85 x1 x3 x4 w)) : ∀ x1 x3 x4 w, q_J X S_R l mX11_cut 2 q_tV 85 [(0, .ref 0), (1, .int x1), (3, .int x3), (4, .long x4)] [] w (fX11_cut_h85 rec7 rec85 x1 x3 x4 w) := by
  intro x1 x3 x4 w
  refine q_aload_n 0 eX11_cut_85 rfl rfl ?_
  refine q_iload_n 1 eX11_cut_86 rfl rfl ?_
  refine q_iload_n 2 eX11_cut_87 rfl rfl ?_
  refine q_iadd eX11_cut_88 ?_
  refine q_callVI (As := [.int (x1 + x3)]) (st := []) eX11_cut_89 cv_11_154 (kX11_at X l (x1 + x3) w) tR_0 rfl (by decide) rfl rfl (Nat.le_of_ble_eq_true rfl) (by decide) (fun r1 w2 => ?_)
  refine q_callSI (As := [.int r1]) (st := []) eX11_cut_92 cv_11_162 (kX11_isLetter X l r1 w2) rfl rfl (Nat.le_of_ble_eq_true rfl) (by decide) (fun r3 w4 => ?_)
  refine q_if_ne (tgt := 111) eX11_cut_95 (by decide) (fun _ => ?_) (fun _ => ?_)
  · refine q_aload_n 0 eX11_cut_98 rfl rfl ?_
    refine q_iload_n 1 eX11_cut_99 rfl rfl ?_
    refine q_iload_n 2 eX11_cut_100 rfl rfl ?_
    refine q_iadd eX11_cut_101 ?_
    refine q_callVI (As := [.int (x1 + x3)]) (st := []) eX11_cut_102 cv_11_154 (kX11_at X l (x1 + x3) w4) tR_0 rfl (by decide) rfl rfl (Nat.le_of_ble_eq_true rfl) (by decide) (fun r5 w6 => ?_)
    refine q_callSI (As := [.int r5]) (st := []) eX11_cut_105 cv_11_166 (kX11_isDigit X l r5 w6) rfl rfl (Nat.le_of_ble_eq_true rfl) (by decide) (fun r7 w8 => ?_)
    refine q_if_eq (tgt := 137) eX11_cut_108 (by decide) (fun _ => ?_) (fun _ => ?_)
    · refine q_iload_n 2 eX11_cut_137 rfl rfl ?_
      refine q_bipush eX11_cut_138 kbipush_8 ?_
      refine q_icmp_le (tgt := 147) eX11_cut_140 (by decide) (fun _ => ?_) (fun _ => ?_)
      · refine q_iconst eX11_cut_147 kiconst_1 ?_
        exact q_sub [0, 1, 2, 3] rfl (jX11_cut_n148 X l rec7 hr7 x1 x3 x4 1 w8)
      · refine q_iconst eX11_cut_143 kiconst_3 ?_
        refine q_goto (tgt := 148) eX11_cut_144 (by decide) ?_
        exact q_sub [0, 1, 2, 3] rfl (jX11_cut_n148 X l rec7 hr7 x1 x3 x4 3 w8)
    · exact q_sub [0, 1, 2, 3] rfl (jX11_cut_n111 X l rec7 rec85 hr7 hr85 x1 x3 x4 w8)
  · exact q_sub [0, 1, 2, 3] rfl (jX11_cut_n111 X l rec7 rec85 hr7 hr85 x1 x3 x4 w4)
set_option maxHeartbeats 4000000 in
set_option maxRecDepth 100000 in
theorem jX11_cut_l85 (X : q_X) (l : Launch) (rec7 : Int32 → q_W → Option (Unit × q_W)) (hr7 : ∀ x1 w, q_J X S_R l mX11_cut 2 q_tV 7 [(0, .ref 0), (1, .int x1)] [] w (rec7 x1 w)) : ∀ x1 x3 x4 w, q_J X S_R l mX11_cut 2 q_tV 85 [(0, .ref 0), (1, .int x1), (3, .int x3), (4, .long x4)] [] w (fX11_cut_l85 rec7 x1 x3 x4 w) := by
  exact q_it_ind (fun rc => ∀ x1 x3 x4 w, q_J X S_R l mX11_cut 2 q_tV 85 [(0, .ref 0), (1, .int x1), (3, .int x3), (4, .long x4)] [] w (rc x1 x3 x4 w)) _ _ (fun _ _ _ _ => q_none) (fun rc hrc => jX11_cut_h85 X l rec7 hr7 rc hrc) q_N
def fX11_cut_n67 (rec7 : Int32 → q_W → Option (Unit × q_W)) (x1 : Int32) (w : q_W) : Option (Unit × q_W) :=
  q_lt (x1 + 1) fun y1 =>
  fX11_cut_n304 rec7 y1 w
set_option maxHeartbeats 4000000 in
set_option maxRecDepth 100000 in
theorem jX11_cut_n67 (X : q_X) (l : Launch) (rec7 : Int32 → q_W → Option (Unit × q_W)) (hr7 : ∀ x1 w, q_J X S_R l mX11_cut 2 q_tV 7 [(0, .ref 0), (1, .int x1)] [] w (rec7 x1 w)) (x1 : Int32) (w : q_W) : q_J X S_R l mX11_cut 2 q_tV 67 [(0, .ref 0), (1, .int x1)] [] w (fX11_cut_n67 rec7 x1 w) := by
  refine q_ltE (fun y1 hy1 => ?_)
  refine q_iinc (v := y1) (lv' := [(1, .int y1), (0, .ref 0)]) 1 eX11_cut_67 rfl hy1 (by decide) rfl ?_
  refine q_goto (tgt := 304) eX11_cut_70 (by decide) ?_
  exact q_sub [1, 0] rfl (jX11_cut_n304 X l rec7 hr7 y1 w)
def fX11_cut_h7 (rec7 : Int32 → q_W → Option (Unit × q_W)) (x1 : Int32) (w : q_W) : Option (Unit × q_W) :=
  if 500 < (w.1 0 10) then
    some ((), w)
  else
    q_b (fX11_at x1 w) fun r1 w2 =>
    if x1 < (w2.1 0 4) then
      if r1 = 9 then
        fX11_cut_n67 rec7 x1 w2
      else
        if r1 = 10 then
          fX11_cut_n67 rec7 x1 w2
        else
          if r1 = 13 then
            fX11_cut_n67 rec7 x1 w2
          else
            if r1 = 32 then
              fX11_cut_n67 rec7 x1 w2
            else
              q_b (fX11_isLetter r1 w2) fun r3 w4 =>
              if r3 = 0 then
                q_b (fX11_isDigit r1 w4) fun r5 w6 =>
                if r5 = 0 then
                  q_b (fX11_at (x1 + 1) w6) fun r7 w8 =>
                  q_b (fX11_sign x1 r1 r7 w8) fun r9 w10 =>
                  q_lt (x1 + r9) fun y11 =>
                  fX11_cut_n304 rec7 y11 w10
                else
                  fX11_cut_l221 rec7 x1 0 0 w6
              else
                fX11_cut_l85 rec7 x1 0 0 w4
    else
      q_b (fX11_token 0 (w2.1 0 4) 0 0 w2) fun r12 w13 =>
      some ((), w13)
def fX11_cut_l7 : Int32 → q_W → Option (Unit × q_W) := q_it q_N (fX11_cut_h7) (fun _ _ => none)
set_option maxHeartbeats 4000000 in
set_option maxRecDepth 100000 in
theorem jX11_cut_h7 (X : q_X) (l : Launch) (rec7 : Int32 → q_W → Option (Unit × q_W)) (hr7 : ∀ x1 w, q_J X S_R l mX11_cut 2 q_tV 7 [(0, .ref 0), (1, .int x1)] [] w (rec7 x1 w)) : ∀ x1 w, q_J X S_R l mX11_cut 2 q_tV 7 [(0, .ref 0), (1, .int x1)] [] w (fX11_cut_h7 rec7 x1 w) := by
  intro x1 w
  refine q_aload_n 0 eX11_cut_7 rfl rfl ?_
  refine q_getI eX11_cut_8 fl_11_151 tR_0 rfl ?_
  refine q_sipush eX11_cut_11 ksipush_500 ?_
  refine q_icmp_gt (tgt := 307) eX11_cut_14 (by decide) (fun _ => ?_) (fun _ => ?_)
  · exact q_return eX11_cut_307 rfl
  · refine q_aload_n 0 eX11_cut_17 rfl rfl ?_
    refine q_iload_n 1 eX11_cut_18 rfl rfl ?_
    refine q_callVI (As := [.int x1]) (st := []) eX11_cut_19 cv_11_154 (kX11_at X l x1 w) tR_0 rfl (by decide) rfl rfl (Nat.le_of_ble_eq_true rfl) (by decide) (fun r1 w2 => ?_)
    refine q_istore_n (lv' := [(2, .int r1), (0, .ref 0), (1, .int x1)]) eX11_cut_22 rfl (by decide) rfl ?_
    refine q_iload_n 2 eX11_cut_23 rfl rfl ?_
    refine q_aload_n 1 eX11_cut_24 rfl rfl ?_
    refine q_getI eX11_cut_25 fl_11_142 tR_0 rfl ?_
    refine q_icmp_lt (tgt := 43) eX11_cut_28 (by decide) (fun _ => ?_) (fun _ => ?_)
    · refine q_iload_n 0 eX11_cut_43 rfl rfl ?_
      refine q_bipush eX11_cut_44 kbipush_9 ?_
      refine q_icmp_eq (tgt := 67) eX11_cut_46 (by decide) (fun _ => ?_) (fun _ => ?_)
      · exact q_sub [1, 2] rfl (jX11_cut_n67 X l rec7 hr7 x1 w2)
      · refine q_iload_n 0 eX11_cut_49 rfl rfl ?_
        refine q_bipush eX11_cut_50 kbipush_10 ?_
        refine q_icmp_eq (tgt := 67) eX11_cut_52 (by decide) (fun _ => ?_) (fun _ => ?_)
        · exact q_sub [1, 2] rfl (jX11_cut_n67 X l rec7 hr7 x1 w2)
        · refine q_iload_n 0 eX11_cut_55 rfl rfl ?_
          refine q_bipush eX11_cut_56 kbipush_13 ?_
          refine q_icmp_eq (tgt := 67) eX11_cut_58 (by decide) (fun _ => ?_) (fun _ => ?_)
          · exact q_sub [1, 2] rfl (jX11_cut_n67 X l rec7 hr7 x1 w2)
          · refine q_iload_n 0 eX11_cut_61 rfl rfl ?_
            refine q_bipush eX11_cut_62 kbipush_32 ?_
            refine q_icmp_ne (tgt := 73) eX11_cut_64 (by decide) (fun _ => ?_) (fun _ => ?_)
            · exact q_sub [1, 2] rfl (jX11_cut_n67 X l rec7 hr7 x1 w2)
            · refine q_iload_n 0 eX11_cut_73 rfl rfl ?_
              refine q_callSI (As := [.int r1]) (st := []) eX11_cut_74 cv_11_162 (kX11_isLetter X l r1 w2) rfl rfl (Nat.le_of_ble_eq_true rfl) (by decide) (fun r3 w4 => ?_)
              refine q_if_eq (tgt := 209) eX11_cut_77 (by decide) (fun _ => ?_) (fun _ => ?_)
              · refine q_iload_n 0 eX11_cut_209 rfl rfl ?_
                refine q_callSI (As := [.int r1]) (st := []) eX11_cut_210 cv_11_166 (kX11_isDigit X l r1 w4) rfl rfl (Nat.le_of_ble_eq_true rfl) (by decide) (fun r5 w6 => ?_)
                refine q_if_eq (tgt := 288) eX11_cut_213 (by decide) (fun _ => ?_) (fun _ => ?_)
                · refine q_iload_n 2 eX11_cut_288 rfl rfl ?_
                  refine q_aload_n 1 eX11_cut_289 rfl rfl ?_
                  refine q_iload_n 2 eX11_cut_290 rfl rfl ?_
                  refine q_iload_n 0 eX11_cut_291 rfl rfl ?_
                  refine q_aload_n 1 eX11_cut_292 rfl rfl ?_
                  refine q_iload_n 2 eX11_cut_293 rfl rfl ?_
                  refine q_iconst eX11_cut_294 kiconst_1 ?_
                  refine q_iadd eX11_cut_295 ?_
                  refine q_callVI (As := [.int (x1 + 1)]) (st := [.int r1, .int x1, .ref 0, .int x1]) eX11_cut_296 cv_11_154 (kX11_at X l (x1 + 1) w6) tR_0 rfl (by decide) rfl rfl (Nat.le_of_ble_eq_true rfl) (by decide) (fun r7 w8 => ?_)
                  refine q_callVI (As := [.int x1, .int r1, .int r7]) (st := [.int x1]) eX11_cut_299 cv_11_169 (kX11_sign X l x1 r1 r7 w8) tR_0 rfl (by decide) rfl rfl (Nat.le_of_ble_eq_true rfl) (by decide) (fun r9 w10 => ?_)
                  refine q_iadd eX11_cut_302 ?_
                  refine q_ltI (fun y11 => ?_)
                  refine q_istore_n (lv' := [(1, .int y11), (2, .int r1), (0, .ref 0)]) eX11_cut_303 rfl (by decide) rfl ?_
                  exact q_sub [2, 0] rfl (jX11_cut_n304 X l rec7 hr7 y11 w10)
                · refine q_iconst eX11_cut_216 kiconst_0 ?_
                  refine q_istore_n (lv' := [(3, .int 0), (2, .int r1), (0, .ref 0), (1, .int x1)]) eX11_cut_217 rfl (by decide) rfl ?_
                  refine q_iconst eX11_cut_218 kiconst_0 ?_
                  refine q_istore (lv' := [(4, .int 0), (3, .int 0), (2, .int r1), (0, .ref 0), (1, .int x1)]) eX11_cut_219 (by decide) rfl ?_
                  exact q_sub [3, 4, 1, 0] rfl (jX11_cut_l221 X l rec7 hr7 x1 0 0 w6)
              · refine q_iconst eX11_cut_80 kiconst_0 ?_
                refine q_istore_n (lv' := [(3, .int 0), (2, .int r1), (0, .ref 0), (1, .int x1)]) eX11_cut_81 rfl (by decide) rfl ?_
                refine q_lconst (v := 0) eX11_cut_82 rfl ?_
                refine q_lstore (lv' := [(4, .long 0), (3, .int 0), (2, .int r1), (0, .ref 0), (1, .int x1)]) eX11_cut_83 (by decide) rfl ?_
                exact q_sub [3, 4, 1, 0] rfl (jX11_cut_l85 X l rec7 hr7 x1 0 0 w4)
    · refine q_aload_n 1 eX11_cut_31 rfl rfl ?_
      refine q_iconst eX11_cut_32 kiconst_0 ?_
      refine q_aload_n 1 eX11_cut_33 rfl rfl ?_
      refine q_getI eX11_cut_34 fl_11_142 tR_0 rfl ?_
      refine q_iconst eX11_cut_37 kiconst_0 ?_
      refine q_lconst (v := 0) eX11_cut_38 rfl ?_
      refine q_callVV (As := [.int 0, .int (w2.1 0 4), .int 0, .long 0]) (st := []) eX11_cut_39 cv_11_158 (kX11_token X l 0 (w2.1 0 4) 0 0 w2) tR_0 rfl (by decide) rfl rfl (Nat.le_of_ble_eq_true rfl) (by decide) (fun r12 w13 => ?_)
      exact q_return eX11_cut_42 rfl
set_option maxHeartbeats 4000000 in
set_option maxRecDepth 100000 in
theorem jX11_cut_l7 (X : q_X) (l : Launch) : ∀ x1 w, q_J X S_R l mX11_cut 2 q_tV 7 [(0, .ref 0), (1, .int x1)] [] w (fX11_cut_l7 x1 w) := by
  exact q_it_ind (fun rc => ∀ x1 w, q_J X S_R l mX11_cut 2 q_tV 7 [(0, .ref 0), (1, .int x1)] [] w (rc x1 w)) _ _ (fun _ _ => q_none) (fun rc hrc => jX11_cut_h7 X l rc hrc) q_N
def fX11_cut (w : q_W) : Option (Unit × q_W) :=
  q_lt (q_sI w 0 10 0) fun w1 =>
  fX11_cut_l7 0 w1
set_option maxHeartbeats 4000000 in
set_option maxRecDepth 100000 in
theorem kX11_cut (X : q_X) (l : Launch) (w : q_W) : q_Ct X S_R l mX11_cut 2 q_tV [.ref 0] w (fX11_cut w) := by
  refine q_intro (lv := [(0, .ref 0)]) (by decide +kernel) rfl (Nat.le_of_ble_eq_true rfl) rfl ?_
  refine q_aload_n 0 eX11_cut_0 rfl rfl ?_
  refine q_iconst eX11_cut_1 kiconst_0 ?_
  refine q_putI eX11_cut_2 fp_11_151 tR_0 rfl ⟨rfl, rfl⟩ ?_
  refine q_ltW (fun w1 => ?_)
  refine q_iconst eX11_cut_5 kiconst_0 ?_
  refine q_istore_n (lv' := [(1, .int 0), (0, .ref 0)]) eX11_cut_6 rfl (by decide) rfl ?_
  exact q_sub [1, 0] rfl (jX11_cut_l7 X l 0 w1)
