/-! methods, printed by program: X11_does X11_logs X11_stroke X11_drop X11_line X11_comb X11_wave X11_lay X11_strike X11_isPattern X11_run -/
def fX11_does_n890 (rec38 : Int32 → Int32 → q_W → Option (Int32 × q_W)) (x4 : Int32) (x5 : Int32) (w : q_W) : Option (Int32 × q_W) :=
  q_lt (x5 + 1) fun y1 =>
  rec38 x4 y1 w
set_option maxHeartbeats 4000000 in
set_option maxRecDepth 100000 in
theorem jX11_does_n890 (X : q_X) (l : Launch) (rec38 : Int32 → Int32 → q_W → Option (Int32 × q_W)) (hr38 : ∀ x4 x5 w, q_J X S_R l mX11_does 3 q_tI 38 [(0, .ref 0), (4, .int x4), (5, .int x5)] [] w (rec38 x4 x5 w)) (x4 : Int32) (x5 : Int32) (w : q_W) : q_J X S_R l mX11_does 3 q_tI 890 [(0, .ref 0), (4, .int x4), (5, .int x5)] [] w (fX11_does_n890 rec38 x4 x5 w) := by
  refine q_ltE (fun y1 hy1 => ?_)
  refine q_iinc (v := y1) (lv' := [(5, .int y1), (0, .ref 0), (4, .int x4)]) 2 eX11_does_890 rfl hy1 (by decide) rfl ?_
  refine q_goto (tgt := 38) eX11_does_893 (by decide) ?_
  exact q_sub [1, 2, 0] rfl (hr38 x4 y1 w)
def fX11_does_n889 (rec38 : Int32 → Int32 → q_W → Option (Int32 × q_W)) (x4 : Int32) (x5 : Int32) (s0 : Int32) (s1 : Int32) (w : q_W) : Option (Int32 × q_W) :=
  if q_inb s1 600 then
  q_lt (q_sI w 25 (q_ix s1) s0) fun w1 =>
  fX11_does_n890 rec38 x4 x5 w1
  else none
set_option maxHeartbeats 4000000 in
set_option maxRecDepth 100000 in
theorem jX11_does_n889 (X : q_X) (l : Launch) (rec38 : Int32 → Int32 → q_W → Option (Int32 × q_W)) (hr38 : ∀ x4 x5 w, q_J X S_R l mX11_does 3 q_tI 38 [(0, .ref 0), (4, .int x4), (5, .int x5)] [] w (rec38 x4 x5 w)) (x4 : Int32) (x5 : Int32) (s0 : Int32) (s1 : Int32) (w : q_W) : q_J X S_R l mX11_does 3 q_tI 889 [(0, .ref 0), (4, .int x4), (5, .int x5)] [.int s0, .int s1, .ref 25] w (fX11_does_n889 rec38 x4 x5 s0 s1 w) := by
  refine q_iast eX11_does_889 tR_25 nR_25 ?_
  refine q_ltW (fun w1 => ?_)
  exact q_sub [0, 1, 2] rfl (jX11_does_n890 X l rec38 hr38 x4 x5 w1)
def fX11_does_n798 (rec38 : Int32 → Int32 → q_W → Option (Int32 × q_W)) (x4 : Int32) (x5 : Int32) (x9 : Int32) (x10 : Int32) (w : q_W) : Option (Int32 × q_W) :=
  if q_inb x5 4000 then
  if (w.1 12 (q_ix x5)) = 2 then
    fX11_does_n889 rec38 x4 x5 (x9 + x10) ((w.1 0 48) - 1) w
  else
    if q_inb x5 4000 then
    if (w.1 12 (q_ix x5)) = 3 then
      fX11_does_n889 rec38 x4 x5 (x9 - x10) ((w.1 0 48) - 1) w
    else
      if q_inb x5 4000 then
      if (w.1 12 (q_ix x5)) = 4 then
        fX11_does_n889 rec38 x4 x5 (x9 * x10) ((w.1 0 48) - 1) w
      else
        if q_inb x5 4000 then
        if (w.1 12 (q_ix x5)) = 5 then
          if x10 = 0 then none else
          fX11_does_n889 rec38 x4 x5 (x9 / x10) ((w.1 0 48) - 1) w
        else
          if x10 = 0 then none else
          fX11_does_n889 rec38 x4 x5 (x9 - x9 / x10 * x10) ((w.1 0 48) - 1) w
        else none
      else none
    else none
  else none
set_option maxHeartbeats 4000000 in
set_option maxRecDepth 100000 in
theorem jX11_does_n798 (X : q_X) (l : Launch) (rec38 : Int32 → Int32 → q_W → Option (Int32 × q_W)) (hr38 : ∀ x4 x5 w, q_J X S_R l mX11_does 3 q_tI 38 [(0, .ref 0), (4, .int x4), (5, .int x5)] [] w (rec38 x4 x5 w)) (x4 : Int32) (x5 : Int32) (x9 : Int32) (x10 : Int32) (w : q_W) : q_J X S_R l mX11_does 3 q_tI 798 [(0, .ref 0), (4, .int x4), (5, .int x5), (9, .int x9), (10, .int x10)] [] w (fX11_does_n798 rec38 x4 x5 x9 x10 w) := by
  refine q_aload_n 0 eX11_does_798 rfl rfl ?_
  refine q_getG (v := 25) eX11_does_799 fl_11_91 tR_0 rfl gR_0_47 ?_
  refine q_aload_n 0 eX11_does_802 rfl rfl ?_
  refine q_getI eX11_does_803 fl_11_299 tR_0 rfl ?_
  refine q_iconst eX11_does_806 kiconst_1 ?_
  refine q_isub eX11_does_807 ?_
  refine q_aload_n 0 eX11_does_808 rfl rfl ?_
  refine q_getG (v := 12) eX11_does_809 fl_11_52 tR_0 rfl gR_0_25 ?_
  refine q_iload 2 eX11_does_812 rfl ?_
  refine q_iald eX11_does_814 tR_12 nR_12 ?_
  refine q_iconst eX11_does_815 kiconst_2 ?_
  refine q_icmp_ne (tgt := 827) eX11_does_816 (by decide) (fun _ => ?_) (fun _ => ?_)
  · refine q_iload 3 eX11_does_819 rfl ?_
    refine q_iload 4 eX11_does_821 rfl ?_
    refine q_iadd eX11_does_823 ?_
    refine q_goto (tgt := 889) eX11_does_824 (by decide) ?_
    exact q_sub [0, 1, 2] rfl (jX11_does_n889 X l rec38 hr38 x4 x5 (x9 + x10) ((w.1 0 48) - 1) w)
  · refine q_aload_n 0 eX11_does_827 rfl rfl ?_
    refine q_getG (v := 12) eX11_does_828 fl_11_52 tR_0 rfl gR_0_25 ?_
    refine q_iload 2 eX11_does_831 rfl ?_
    refine q_iald eX11_does_833 tR_12 nR_12 ?_
    refine q_iconst eX11_does_834 kiconst_3 ?_
    refine q_icmp_ne (tgt := 846) eX11_does_835 (by decide) (fun _ => ?_) (fun _ => ?_)
    · refine q_iload 3 eX11_does_838 rfl ?_
      refine q_iload 4 eX11_does_840 rfl ?_
      refine q_isub eX11_does_842 ?_
      refine q_goto (tgt := 889) eX11_does_843 (by decide) ?_
      exact q_sub [0, 1, 2] rfl (jX11_does_n889 X l rec38 hr38 x4 x5 (x9 - x10) ((w.1 0 48) - 1) w)
    · refine q_aload_n 0 eX11_does_846 rfl rfl ?_
      refine q_getG (v := 12) eX11_does_847 fl_11_52 tR_0 rfl gR_0_25 ?_
      refine q_iload 2 eX11_does_850 rfl ?_
      refine q_iald eX11_does_852 tR_12 nR_12 ?_
      refine q_iconst eX11_does_853 kiconst_4 ?_
      refine q_icmp_ne (tgt := 865) eX11_does_854 (by decide) (fun _ => ?_) (fun _ => ?_)
      · refine q_iload 3 eX11_does_857 rfl ?_
        refine q_iload 4 eX11_does_859 rfl ?_
        refine q_imul eX11_does_861 ?_
        refine q_goto (tgt := 889) eX11_does_862 (by decide) ?_
        exact q_sub [0, 1, 2] rfl (jX11_does_n889 X l rec38 hr38 x4 x5 (x9 * x10) ((w.1 0 48) - 1) w)
      · refine q_aload_n 0 eX11_does_865 rfl rfl ?_
        refine q_getG (v := 12) eX11_does_866 fl_11_52 tR_0 rfl gR_0_25 ?_
        refine q_iload 2 eX11_does_869 rfl ?_
        refine q_iald eX11_does_871 tR_12 nR_12 ?_
        refine q_iconst eX11_does_872 kiconst_5 ?_
        refine q_icmp_ne (tgt := 884) eX11_does_873 (by decide) (fun _ => ?_) (fun _ => ?_)
        · refine q_iload 3 eX11_does_876 rfl ?_
          refine q_iload 4 eX11_does_878 rfl ?_
          refine q_idiv eX11_does_880 ?_
          refine q_goto (tgt := 889) eX11_does_881 (by decide) ?_
          exact q_sub [0, 1, 2] rfl (jX11_does_n889 X l rec38 hr38 x4 x5 (x9 / x10) ((w.1 0 48) - 1) w)
        · refine q_iload 3 eX11_does_884 rfl ?_
          refine q_iload 4 eX11_does_886 rfl ?_
          refine q_irem eX11_does_888 ?_
          exact q_sub [0, 1, 2] rfl (jX11_does_n889 X l rec38 hr38 x4 x5 (x9 - x9 / x10 * x10) ((w.1 0 48) - 1) w)
def fX11_does_n746 (rec38 : Int32 → Int32 → q_W → Option (Int32 × q_W)) (x4 : Int32) (x5 : Int32) (w : q_W) : Option (Int32 × q_W) :=
  q_lt (q_sI w 0 48 ((w.1 0 48) - 1)) fun w1 =>
  q_lt ((w1.1 0 48) - 1) fun y2 =>
  if q_inb y2 600 then
  q_lt (w1.1 25 (q_ix y2)) fun y3 =>
  q_lt (w1.1 0 48) fun y4 =>
  if q_inb y4 600 then
  q_lt (w1.1 25 (q_ix y4)) fun y5 =>
  if q_inb x5 4000 then
  if (w1.1 12 (q_ix x5)) ≤ 4 then
    fX11_does_n798 rec38 x4 x5 y3 y5 w1
  else
    if y5 = 0 then
      some (3, w1)
    else
      fX11_does_n798 rec38 x4 x5 y3 y5 w1
  else none
  else none
  else none
set_option maxHeartbeats 4000000 in
set_option maxRecDepth 100000 in
theorem jX11_does_n746 (X : q_X) (l : Launch) (rec38 : Int32 → Int32 → q_W → Option (Int32 × q_W)) (hr38 : ∀ x4 x5 w, q_J X S_R l mX11_does 3 q_tI 38 [(0, .ref 0), (4, .int x4), (5, .int x5)] [] w (rec38 x4 x5 w)) (x4 : Int32) (x5 : Int32) (w : q_W) : q_J X S_R l mX11_does 3 q_tI 746 [(0, .ref 0), (4, .int x4), (5, .int x5)] [] w (fX11_does_n746 rec38 x4 x5 w) := by
  refine q_aload_n 0 eX11_does_746 rfl rfl ?_
  refine q_dup eX11_does_747 rfl ?_
  refine q_getI eX11_does_748 fl_11_299 tR_0 rfl ?_
  refine q_iconst eX11_does_751 kiconst_1 ?_
  refine q_isub eX11_does_752 ?_
  refine q_putI eX11_does_753 fp_11_299 tR_0 rfl ⟨rfl, rfl⟩ ?_
  refine q_ltW (fun w1 => ?_)
  refine q_aload_n 0 eX11_does_756 rfl rfl ?_
  refine q_getG (v := 25) eX11_does_757 fl_11_91 tR_0 rfl gR_0_47 ?_
  refine q_aload_n 0 eX11_does_760 rfl rfl ?_
  refine q_getI eX11_does_761 fl_11_299 tR_0 rfl ?_
  refine q_iconst eX11_does_764 kiconst_1 ?_
  refine q_isub eX11_does_765 ?_
  refine q_ltI (fun y2 => ?_)
  refine q_iald eX11_does_766 tR_25 nR_25 ?_
  refine q_ltI (fun y3 => ?_)
  refine q_istore (lv' := [(9, .int y3), (0, .ref 0), (4, .int x4), (5, .int x5)]) eX11_does_767 (by decide) rfl ?_
  refine q_aload_n 1 eX11_does_769 rfl rfl ?_
  refine q_getG (v := 25) eX11_does_770 fl_11_91 tR_0 rfl gR_0_47 ?_
  refine q_aload_n 1 eX11_does_773 rfl rfl ?_
  refine q_getI eX11_does_774 fl_11_299 tR_0 rfl ?_
  refine q_ltI (fun y4 => ?_)
  refine q_iald eX11_does_777 tR_25 nR_25 ?_
  refine q_ltI (fun y5 => ?_)
  refine q_istore (lv' := [(10, .int y5), (9, .int y3), (0, .ref 0), (4, .int x4), (5, .int x5)]) eX11_does_778 (by decide) rfl ?_
  refine q_aload_n 2 eX11_does_780 rfl rfl ?_
  refine q_getG (v := 12) eX11_does_781 fl_11_52 tR_0 rfl gR_0_25 ?_
  refine q_iload 4 eX11_does_784 rfl ?_
  refine q_iald eX11_does_786 tR_12 nR_12 ?_
  refine q_iconst eX11_does_787 kiconst_4 ?_
  refine q_icmp_le (tgt := 798) eX11_does_788 (by decide) (fun _ => ?_) (fun _ => ?_)
  · exact q_sub [2, 3, 4, 1, 0] rfl (jX11_does_n798 X l rec38 hr38 x4 x5 y3 y5 w1)
  · refine q_iload 0 eX11_does_791 rfl ?_
    refine q_if_ne (tgt := 798) eX11_does_793 (by decide) (fun _ => ?_) (fun _ => ?_)
    · refine q_iconst eX11_does_796 kiconst_3 ?_
      exact q_ireturn eX11_does_797 rfl
    · exact q_sub [2, 3, 4, 1, 0] rfl (jX11_does_n798 X l rec38 hr38 x4 x5 y3 y5 w1)
def fX11_does_n724 (rec38 : Int32 → Int32 → q_W → Option (Int32 × q_W)) (x4 : Int32) (w : q_W) : Option (Int32 × q_W) :=
  if x4 = 0 then
    some (0, w)
  else
    q_lt (x4 + (-1)) fun y1 =>
    if q_inb y1 9 then
    q_lt (w.1 24 (q_ix y1)) fun y2 =>
    fX11_does_n890 rec38 y1 y2 w
    else none
set_option maxHeartbeats 4000000 in
set_option maxRecDepth 100000 in
theorem jX11_does_n724 (X : q_X) (l : Launch) (rec38 : Int32 → Int32 → q_W → Option (Int32 × q_W)) (hr38 : ∀ x4 x5 w, q_J X S_R l mX11_does 3 q_tI 38 [(0, .ref 0), (4, .int x4), (5, .int x5)] [] w (rec38 x4 x5 w)) (x4 : Int32) (w : q_W) : q_J X S_R l mX11_does 3 q_tI 724 [(0, .ref 0), (4, .int x4)] [] w (fX11_does_n724 rec38 x4 w) := by
  refine q_iload 1 eX11_does_724 rfl ?_
  refine q_if_ne (tgt := 731) eX11_does_726 (by decide) (fun _ => ?_) (fun _ => ?_)
  · refine q_iconst eX11_does_729 kiconst_0 ?_
    exact q_ireturn eX11_does_730 rfl
  · refine q_ltE (fun y1 hy1 => ?_)
    refine q_iinc (v := y1) (lv' := [(4, .int y1), (0, .ref 0)]) 1 eX11_does_731 rfl hy1 (by decide) rfl ?_
    refine q_aload_n 1 eX11_does_734 rfl rfl ?_
    refine q_getG (v := 24) eX11_does_735 fl_11_88 tR_0 rfl gR_0_46 ?_
    refine q_iload 0 eX11_does_738 rfl ?_
    refine q_iald eX11_does_740 tR_24 nR_24 ?_
    refine q_ltI (fun y2 => ?_)
    refine q_istore (lv' := [(5, .int y2), (4, .int y1), (0, .ref 0)]) eX11_does_741 (by decide) rfl ?_
    refine q_goto (tgt := 890) eX11_does_743 (by decide) ?_
    exact q_sub [2, 1, 0] rfl (jX11_does_n890 X l rec38 hr38 y1 y2 w)
def fX11_does_h664 (rec38 : Int32 → Int32 → q_W → Option (Int32 × q_W)) (rec664 : Int32 → Int32 → Int32 → Int32 → q_W → Option (Int32 × q_W)) (x4 : Int32) (x6 : Int32) (x7 : Int32) (x9 : Int32) (w : q_W) : Option (Int32 × q_W) :=
  if x7 ≤ x9 then
    q_lt ((8 * (w.1 0 18)) + x6) fun y1 =>
    if q_inb y1 16 then
    q_lt ((w.1 11 (q_ix y1)) - 1) fun y2 =>
    fX11_does_n890 rec38 x4 y2 w
    else none
  else
    q_lt ((w.1 0 48) + x9) fun y3 =>
    if q_inb y3 600 then
    q_lt ((16 * x4) + x9) fun y4 =>
    if q_inb y4 144 then
    q_lt (q_sI w 23 (q_ix y4) (w.1 25 (q_ix y3))) fun w5 =>
    q_lt (x9 + 1) fun y6 =>
    rec664 x4 x6 x7 y6 w5
    else none
    else none
def fX11_does_l664 (rec38 : Int32 → Int32 → q_W → Option (Int32 × q_W)) : Int32 → Int32 → Int32 → Int32 → q_W → Option (Int32 × q_W) := q_it q_N (fX11_does_h664 rec38) (fun _ _ _ _ _ => none)
set_option maxHeartbeats 4000000 in
set_option maxRecDepth 100000 in
theorem jX11_does_h664 (X : q_X) (l : Launch) (rec38 : Int32 → Int32 → q_W → Option (Int32 × q_W)) (hr38 : ∀ x4 x5 w, q_J X S_R l mX11_does 3 q_tI 38 [(0, .ref 0), (4, .int x4), (5, .int x5)] [] w (rec38 x4 x5 w)) (rec664 : Int32 → Int32 → Int32 → Int32 → q_W → Option (Int32 × q_W)) (hr664 : ∀ x4 x6 x7 x9 w, q_J X S_R l mX11_does 3 q_tI 664 [(0, .ref 0), (4, .int x4), (6, .int x6), (7, .int x7), (9, .int x9)] [] w (rec664 x4 x6 x7 x9 w)) : ∀ x4 x6 x7 x9 w, q_J X S_R l mX11_does 3 q_tI 664 [(0, .ref 0), (4, .int x4), (6, .int x6), (7, .int x7), (9, .int x9)] [] w (fX11_does_h664 rec38 rec664 x4 x6 x7 x9 w) := by
  intro x4 x6 x7 x9 w
  refine q_iload 4 eX11_does_664 rfl ?_
  refine q_iload 3 eX11_does_666 rfl ?_
  refine q_icmp_ge (tgt := 702) eX11_does_668 (by decide) (fun _ => ?_) (fun _ => ?_)
  · refine q_aload_n 0 eX11_does_702 rfl rfl ?_
    refine q_getG (v := 11) eX11_does_703 fl_11_49 tR_0 rfl gR_0_23 ?_
    refine q_bipush eX11_does_706 kbipush_8 ?_
    refine q_aload_n 0 eX11_does_708 rfl rfl ?_
    refine q_getI eX11_does_709 fl_11_206 tR_0 rfl ?_
    refine q_imul eX11_does_712 ?_
    refine q_iload 2 eX11_does_713 rfl ?_
    refine q_iadd eX11_does_715 ?_
    refine q_ltI (fun y1 => ?_)
    refine q_iald eX11_does_716 tR_11 nR_11 ?_
    refine q_iconst eX11_does_717 kiconst_1 ?_
    refine q_isub eX11_does_718 ?_
    refine q_ltI (fun y2 => ?_)
    refine q_istore (lv' := [(5, .int y2), (0, .ref 0), (4, .int x4), (6, .int x6), (7, .int x7), (9, .int x9)]) eX11_does_719 (by decide) rfl ?_
    refine q_goto (tgt := 890) eX11_does_721 (by decide) ?_
    exact q_sub [1, 2, 0] rfl (jX11_does_n890 X l rec38 hr38 x4 y2 w)
  · refine q_aload_n 0 eX11_does_671 rfl rfl ?_
    refine q_getG (v := 23) eX11_does_672 fl_11_85 tR_0 rfl gR_0_45 ?_
    refine q_bipush eX11_does_675 kbipush_16 ?_
    refine q_iload 1 eX11_does_677 rfl ?_
    refine q_imul eX11_does_679 ?_
    refine q_iload 4 eX11_does_680 rfl ?_
    refine q_iadd eX11_does_682 ?_
    refine q_aload_n 0 eX11_does_683 rfl rfl ?_
    refine q_getG (v := 25) eX11_does_684 fl_11_91 tR_0 rfl gR_0_47 ?_
    refine q_aload_n 0 eX11_does_687 rfl rfl ?_
    refine q_getI eX11_does_688 fl_11_299 tR_0 rfl ?_
    refine q_iload 4 eX11_does_691 rfl ?_
    refine q_iadd eX11_does_693 ?_
    refine q_ltI (fun y3 => ?_)
    refine q_iald eX11_does_694 tR_25 nR_25 ?_
    refine q_ltI1 (fun y4 => ?_)
    refine q_iast eX11_does_695 tR_23 nR_23 ?_
    refine q_ltW (fun w5 => ?_)
    refine q_ltE (fun y6 hy6 => ?_)
    refine q_iinc (v := y6) (lv' := [(9, .int y6), (0, .ref 0), (4, .int x4), (6, .int x6), (7, .int x7)]) 4 eX11_does_696 rfl hy6 (by decide) rfl ?_
    refine q_goto (tgt := 664) eX11_does_699 (by decide) ?_
    exact q_sub [1, 2, 3, 4, 0] rfl (hr664 x4 x6 x7 y6 w5)
set_option maxHeartbeats 4000000 in
set_option maxRecDepth 100000 in
theorem jX11_does_l664 (X : q_X) (l : Launch) (rec38 : Int32 → Int32 → q_W → Option (Int32 × q_W)) (hr38 : ∀ x4 x5 w, q_J X S_R l mX11_does 3 q_tI 38 [(0, .ref 0), (4, .int x4), (5, .int x5)] [] w (rec38 x4 x5 w)) : ∀ x4 x6 x7 x9 w, q_J X S_R l mX11_does 3 q_tI 664 [(0, .ref 0), (4, .int x4), (6, .int x6), (7, .int x7), (9, .int x9)] [] w (fX11_does_l664 rec38 x4 x6 x7 x9 w) := by
  exact q_it_ind (fun rc => ∀ x4 x6 x7 x9 w, q_J X S_R l mX11_does 3 q_tI 664 [(0, .ref 0), (4, .int x4), (6, .int x6), (7, .int x7), (9, .int x9)] [] w (rc x4 x6 x7 x9 w)) _ _ (fun _ _ _ _ _ => q_none) (fun rc hrc => jX11_does_h664 X l rec38 hr38 rc hrc) q_N
def fX11_does_n638 (rec38 : Int32 → Int32 → q_W → Option (Int32 × q_W)) (x4 : Int32) (x5 : Int32) (x6 : Int32) (x7 : Int32) (w : q_W) : Option (Int32 × q_W) :=
  if q_inb x4 9 then
  q_lt (q_sI w 24 (q_ix x4) x5) fun w1 =>
  q_lt (x4 + 1) fun y2 =>
  q_lt (q_sI w1 0 48 ((w1.1 0 48) - x7)) fun w3 =>
  fX11_does_l664 rec38 y2 x6 x7 0 w3
  else none
set_option maxHeartbeats 4000000 in
set_option maxRecDepth 100000 in
theorem jX11_does_n638 (X : q_X) (l : Launch) (rec38 : Int32 → Int32 → q_W → Option (Int32 × q_W)) (hr38 : ∀ x4 x5 w, q_J X S_R l mX11_does 3 q_tI 38 [(0, .ref 0), (4, .int x4), (5, .int x5)] [] w (rec38 x4 x5 w)) (x4 : Int32) (x5 : Int32) (x6 : Int32) (x7 : Int32) (w : q_W) : q_J X S_R l mX11_does 3 q_tI 638 [(0, .ref 0), (4, .int x4), (5, .int x5), (6, .int x6), (7, .int x7)] [] w (fX11_does_n638 rec38 x4 x5 x6 x7 w) := by
  refine q_aload_n 0 eX11_does_638 rfl rfl ?_
  refine q_getG (v := 24) eX11_does_639 fl_11_88 tR_0 rfl gR_0_46 ?_
  refine q_iload 1 eX11_does_642 rfl ?_
  refine q_iload 2 eX11_does_644 rfl ?_
  refine q_iast eX11_does_646 tR_24 nR_24 ?_
  refine q_ltW (fun w1 => ?_)
  refine q_ltE (fun y2 hy2 => ?_)
  refine q_iinc (v := y2) (lv' := [(4, .int y2), (0, .ref 0), (5, .int x5), (6, .int x6), (7, .int x7)]) 1 eX11_does_647 rfl hy2 (by decide) rfl ?_
  refine q_aload_n 1 eX11_does_650 rfl rfl ?_
  refine q_dup eX11_does_651 rfl ?_
  refine q_getI eX11_does_652 fl_11_299 tR_0 rfl ?_
  refine q_iload 4 eX11_does_655 rfl ?_
  refine q_isub eX11_does_657 ?_
  refine q_putI eX11_does_658 fp_11_299 tR_0 rfl ⟨rfl, rfl⟩ ?_
  refine q_ltW (fun w3 => ?_)
  refine q_iconst eX11_does_661 kiconst_0 ?_
  refine q_istore (lv' := [(9, .int 0), (4, .int y2), (0, .ref 0), (5, .int x5), (6, .int x6), (7, .int x7)]) eX11_does_662 (by decide) rfl ?_
  exact q_sub [2, 1, 4, 5, 0] rfl (jX11_does_l664 X l rec38 hr38 y2 x6 x7 0 w3)
def fX11_does_n606 (rec38 : Int32 → Int32 → q_W → Option (Int32 × q_W)) (x4 : Int32) (x5 : Int32) (x6 : Int32) (w : q_W) : Option (Int32 × q_W) :=
  q_lt (q_sI w 0 48 ((w.1 0 48) - 1)) fun w1 =>
  q_lt (w1.1 0 48) fun y2 =>
  if q_inb y2 600 then
  if (w1.1 25 (q_ix y2)) = 1 then
    q_lt (x6 - 1) fun y3 =>
    fX11_does_n890 rec38 x4 y3 w1
  else
    fX11_does_n890 rec38 x4 x5 w1
  else none
set_option maxHeartbeats 4000000 in
set_option maxRecDepth 100000 in
theorem jX11_does_n606 (X : q_X) (l : Launch) (rec38 : Int32 → Int32 → q_W → Option (Int32 × q_W)) (hr38 : ∀ x4 x5 w, q_J X S_R l mX11_does 3 q_tI 38 [(0, .ref 0), (4, .int x4), (5, .int x5)] [] w (rec38 x4 x5 w)) (x4 : Int32) (x5 : Int32) (x6 : Int32) (w : q_W) : q_J X S_R l mX11_does 3 q_tI 606 [(0, .ref 0), (4, .int x4), (5, .int x5), (6, .int x6)] [] w (fX11_does_n606 rec38 x4 x5 x6 w) := by
  refine q_aload_n 0 eX11_does_606 rfl rfl ?_
  refine q_dup eX11_does_607 rfl ?_
  refine q_getI eX11_does_608 fl_11_299 tR_0 rfl ?_
  refine q_iconst eX11_does_611 kiconst_1 ?_
  refine q_isub eX11_does_612 ?_
  refine q_putI eX11_does_613 fp_11_299 tR_0 rfl ⟨rfl, rfl⟩ ?_
  refine q_ltW (fun w1 => ?_)
  refine q_aload_n 0 eX11_does_616 rfl rfl ?_
  refine q_getG (v := 25) eX11_does_617 fl_11_91 tR_0 rfl gR_0_47 ?_
  refine q_aload_n 0 eX11_does_620 rfl rfl ?_
  refine q_getI eX11_does_621 fl_11_299 tR_0 rfl ?_
  refine q_ltI (fun y2 => ?_)
  refine q_iald eX11_does_624 tR_25 nR_25 ?_
  refine q_iconst eX11_does_625 kiconst_1 ?_
  refine q_icmp_ne (tgt := 890) eX11_does_626 (by decide) (fun _ => ?_) (fun _ => ?_)
  · refine q_iload 3 eX11_does_629 rfl ?_
    refine q_iconst eX11_does_631 kiconst_1 ?_
    refine q_isub eX11_does_632 ?_
    refine q_ltI (fun y3 => ?_)
    refine q_istore (lv' := [(5, .int y3), (0, .ref 0), (4, .int x4), (6, .int x6)]) eX11_does_633 (by decide) rfl ?_
    refine q_goto (tgt := 890) eX11_does_635 (by decide) ?_
    exact q_sub [1, 2, 0] rfl (jX11_does_n890 X l rec38 hr38 x4 y3 w1)
  · exact q_sub [0, 1, 2] rfl (jX11_does_n890 X l rec38 hr38 x4 x5 w1)
def fX11_does_n575 (rec38 : Int32 → Int32 → q_W → Option (Int32 × q_W)) (x4 : Int32) (x5 : Int32) (x6 : Int32) (w : q_W) : Option (Int32 × q_W) :=
  q_lt (q_sI w 0 48 ((w.1 0 48) - 1)) fun w1 =>
  q_lt (w1.1 0 48) fun y2 =>
  if q_inb y2 600 then
  if (w1.1 25 (q_ix y2)) = 0 then
    q_lt (x6 - 1) fun y3 =>
    fX11_does_n890 rec38 x4 y3 w1
  else
    fX11_does_n890 rec38 x4 x5 w1
  else none
set_option maxHeartbeats 4000000 in
set_option maxRecDepth 100000 in
theorem jX11_does_n575 (X : q_X) (l : Launch) (rec38 : Int32 → Int32 → q_W → Option (Int32 × q_W)) (hr38 : ∀ x4 x5 w, q_J X S_R l mX11_does 3 q_tI 38 [(0, .ref 0), (4, .int x4), (5, .int x5)] [] w (rec38 x4 x5 w)) (x4 : Int32) (x5 : Int32) (x6 : Int32) (w : q_W) : q_J X S_R l mX11_does 3 q_tI 575 [(0, .ref 0), (4, .int x4), (5, .int x5), (6, .int x6)] [] w (fX11_does_n575 rec38 x4 x5 x6 w) := by
  refine q_aload_n 0 eX11_does_575 rfl rfl ?_
  refine q_dup eX11_does_576 rfl ?_
  refine q_getI eX11_does_577 fl_11_299 tR_0 rfl ?_
  refine q_iconst eX11_does_580 kiconst_1 ?_
  refine q_isub eX11_does_581 ?_
  refine q_putI eX11_does_582 fp_11_299 tR_0 rfl ⟨rfl, rfl⟩ ?_
  refine q_ltW (fun w1 => ?_)
  refine q_aload_n 0 eX11_does_585 rfl rfl ?_
  refine q_getG (v := 25) eX11_does_586 fl_11_91 tR_0 rfl gR_0_47 ?_
  refine q_aload_n 0 eX11_does_589 rfl rfl ?_
  refine q_getI eX11_does_590 fl_11_299 tR_0 rfl ?_
  refine q_ltI (fun y2 => ?_)
  refine q_iald eX11_does_593 tR_25 nR_25 ?_
  refine q_if_ne (tgt := 890) eX11_does_594 (by decide) (fun _ => ?_) (fun _ => ?_)
  · refine q_iload 3 eX11_does_597 rfl ?_
    refine q_iconst eX11_does_599 kiconst_1 ?_
    refine q_isub eX11_does_600 ?_
    refine q_ltI (fun y3 => ?_)
    refine q_istore (lv' := [(5, .int y3), (0, .ref 0), (4, .int x4), (6, .int x6)]) eX11_does_601 (by decide) rfl ?_
    refine q_goto (tgt := 890) eX11_does_603 (by decide) ?_
    exact q_sub [1, 2, 0] rfl (jX11_does_n890 X l rec38 hr38 x4 y3 w1)
  · exact q_sub [0, 1, 2] rfl (jX11_does_n890 X l rec38 hr38 x4 x5 w1)
def fX11_does_n561 (rec38 : Int32 → Int32 → q_W → Option (Int32 × q_W)) (x4 : Int32) (x5 : Int32) (s0 : Int32) (s1 : Int32) (w : q_W) : Option (Int32 × q_W) :=
  if q_inb s1 600 then
  q_lt (q_sI w 25 (q_ix s1) s0) fun w1 =>
  q_lt (q_sI w1 0 48 ((w1.1 0 48) + 1)) fun w2 =>
  fX11_does_n890 rec38 x4 x5 w2
  else none
set_option maxHeartbeats 4000000 in
set_option maxRecDepth 100000 in
theorem jX11_does_n561 (X : q_X) (l : Launch) (rec38 : Int32 → Int32 → q_W → Option (Int32 × q_W)) (hr38 : ∀ x4 x5 w, q_J X S_R l mX11_does 3 q_tI 38 [(0, .ref 0), (4, .int x4), (5, .int x5)] [] w (rec38 x4 x5 w)) (x4 : Int32) (x5 : Int32) (s0 : Int32) (s1 : Int32) (w : q_W) : q_J X S_R l mX11_does 3 q_tI 561 [(0, .ref 0), (4, .int x4), (5, .int x5)] [.int s0, .int s1, .ref 25] w (fX11_does_n561 rec38 x4 x5 s0 s1 w) := by
  refine q_iast eX11_does_561 tR_25 nR_25 ?_
  refine q_ltW (fun w1 => ?_)
  refine q_aload_n 0 eX11_does_562 rfl rfl ?_
  refine q_dup eX11_does_563 rfl ?_
  refine q_getI eX11_does_564 fl_11_299 tR_0 rfl ?_
  refine q_iconst eX11_does_567 kiconst_1 ?_
  refine q_iadd eX11_does_568 ?_
  refine q_putI eX11_does_569 fp_11_299 tR_0 rfl ⟨rfl, rfl⟩ ?_
  refine q_ltW (fun w2 => ?_)
  refine q_goto (tgt := 890) eX11_does_572 (by decide) ?_
  exact q_sub [0, 1, 2] rfl (jX11_does_n890 X l rec38 hr38 x4 x5 w2)
def fX11_does_n541 (rec38 : Int32 → Int32 → q_W → Option (Int32 × q_W)) (x4 : Int32) (x5 : Int32) (s0 : Int32) (w : q_W) : Option (Int32 × q_W) :=
  if s0 = 0 then
    fX11_does_n561 rec38 x4 x5 0 (w.1 0 48) w
  else
    fX11_does_n561 rec38 x4 x5 1 (w.1 0 48) w
set_option maxHeartbeats 4000000 in
set_option maxRecDepth 100000 in
theorem jX11_does_n541 (X : q_X) (l : Launch) (rec38 : Int32 → Int32 → q_W → Option (Int32 × q_W)) (hr38 : ∀ x4 x5 w, q_J X S_R l mX11_does 3 q_tI 38 [(0, .ref 0), (4, .int x4), (5, .int x5)] [] w (rec38 x4 x5 w)) (x4 : Int32) (x5 : Int32) (s0 : Int32) (w : q_W) : q_J X S_R l mX11_does 3 q_tI 541 [(0, .ref 0), (4, .int x4), (5, .int x5)] [.int s0] w (fX11_does_n541 rec38 x4 x5 s0 w) := by
  refine q_istore (lv' := [(11, .int s0), (0, .ref 0), (4, .int x4), (5, .int x5)]) eX11_does_541 (by decide) rfl ?_
  refine q_aload_n 1 eX11_does_543 rfl rfl ?_
  refine q_getG (v := 25) eX11_does_544 fl_11_91 tR_0 rfl gR_0_47 ?_
  refine q_aload_n 1 eX11_does_547 rfl rfl ?_
  refine q_getI eX11_does_548 fl_11_299 tR_0 rfl ?_
  refine q_iload 0 eX11_does_551 rfl ?_
  refine q_if_eq (tgt := 560) eX11_does_553 (by decide) (fun _ => ?_) (fun _ => ?_)
  · refine q_iconst eX11_does_560 kiconst_0 ?_
    exact q_sub [1, 2, 3] rfl (jX11_does_n561 X l rec38 hr38 x4 x5 0 (w.1 0 48) w)
  · refine q_iconst eX11_does_556 kiconst_1 ?_
    refine q_goto (tgt := 561) eX11_does_557 (by decide) ?_
    exact q_sub [1, 2, 3] rfl (jX11_does_n561 X l rec38 hr38 x4 x5 1 (w.1 0 48) w)
def fX11_does_n433 (rec38 : Int32 → Int32 → q_W → Option (Int32 × q_W)) (x4 : Int32) (x5 : Int32) (x6 : Int32) (w : q_W) : Option (Int32 × q_W) :=
  q_lt (q_sI w 0 48 ((w.1 0 48) - 2)) fun w1 =>
  q_lt (w1.1 0 48) fun y2 =>
  if q_inb y2 600 then
  q_lt (w1.1 25 (q_ix y2)) fun y3 =>
  q_lt ((w1.1 0 48) + 1) fun y4 =>
  if q_inb y4 600 then
  q_lt (w1.1 25 (q_ix y4)) fun y5 =>
  if x6 = 0 then
    if y3 = y5 then
      fX11_does_n541 rec38 x4 x5 1 w1
    else
      fX11_does_n541 rec38 x4 x5 0 w1
  else
    if x6 = 1 then
      if y3 = y5 then
        fX11_does_n541 rec38 x4 x5 0 w1
      else
        fX11_does_n541 rec38 x4 x5 1 w1
    else
      if x6 = 2 then
        if y5 ≤ y3 then
          fX11_does_n541 rec38 x4 x5 0 w1
        else
          fX11_does_n541 rec38 x4 x5 1 w1
      else
        if y5 < y3 then
          fX11_does_n541 rec38 x4 x5 0 w1
        else
          fX11_does_n541 rec38 x4 x5 1 w1
  else none
  else none
set_option maxHeartbeats 4000000 in
set_option maxRecDepth 100000 in
theorem jX11_does_n433 (X : q_X) (l : Launch) (rec38 : Int32 → Int32 → q_W → Option (Int32 × q_W)) (hr38 : ∀ x4 x5 w, q_J X S_R l mX11_does 3 q_tI 38 [(0, .ref 0), (4, .int x4), (5, .int x5)] [] w (rec38 x4 x5 w)) (x4 : Int32) (x5 : Int32) (x6 : Int32) (w : q_W) : q_J X S_R l mX11_does 3 q_tI 433 [(0, .ref 0), (4, .int x4), (5, .int x5), (6, .int x6)] [] w (fX11_does_n433 rec38 x4 x5 x6 w) := by
  refine q_aload_n 0 eX11_does_433 rfl rfl ?_
  refine q_dup eX11_does_434 rfl ?_
  refine q_getI eX11_does_435 fl_11_299 tR_0 rfl ?_
  refine q_iconst eX11_does_438 kiconst_2 ?_
  refine q_isub eX11_does_439 ?_
  refine q_putI eX11_does_440 fp_11_299 tR_0 rfl ⟨rfl, rfl⟩ ?_
  refine q_ltW (fun w1 => ?_)
  refine q_aload_n 0 eX11_does_443 rfl rfl ?_
  refine q_getG (v := 25) eX11_does_444 fl_11_91 tR_0 rfl gR_0_47 ?_
  refine q_aload_n 0 eX11_does_447 rfl rfl ?_
  refine q_getI eX11_does_448 fl_11_299 tR_0 rfl ?_
  refine q_ltI (fun y2 => ?_)
  refine q_iald eX11_does_451 tR_25 nR_25 ?_
  refine q_ltI (fun y3 => ?_)
  refine q_istore (lv' := [(9, .int y3), (0, .ref 0), (4, .int x4), (5, .int x5), (6, .int x6)]) eX11_does_452 (by decide) rfl ?_
  refine q_aload_n 1 eX11_does_454 rfl rfl ?_
  refine q_getG (v := 25) eX11_does_455 fl_11_91 tR_0 rfl gR_0_47 ?_
  refine q_aload_n 1 eX11_does_458 rfl rfl ?_
  refine q_getI eX11_does_459 fl_11_299 tR_0 rfl ?_
  refine q_iconst eX11_does_462 kiconst_1 ?_
  refine q_iadd eX11_does_463 ?_
  refine q_ltI (fun y4 => ?_)
  refine q_iald eX11_does_464 tR_25 nR_25 ?_
  refine q_ltI (fun y5 => ?_)
  refine q_istore (lv' := [(10, .int y5), (9, .int y3), (0, .ref 0), (4, .int x4), (5, .int x5), (6, .int x6)]) eX11_does_465 (by decide) rfl ?_
  refine q_iload 5 eX11_does_467 rfl ?_
  refine q_if_ne (tgt := 487) eX11_does_469 (by decide) (fun _ => ?_) (fun _ => ?_)
  · refine q_iload 1 eX11_does_472 rfl ?_
    refine q_iload 0 eX11_does_474 rfl ?_
    refine q_icmp_ne (tgt := 483) eX11_does_476 (by decide) (fun _ => ?_) (fun _ => ?_)
    · refine q_iconst eX11_does_479 kiconst_1 ?_
      refine q_goto (tgt := 541) eX11_does_480 (by decide) ?_
      exact q_sub [2, 3, 4] rfl (jX11_does_n541 X l rec38 hr38 x4 x5 1 w1)
    · refine q_iconst eX11_does_483 kiconst_0 ?_
      refine q_goto (tgt := 541) eX11_does_484 (by decide) ?_
      exact q_sub [2, 3, 4] rfl (jX11_does_n541 X l rec38 hr38 x4 x5 0 w1)
  · refine q_iload 5 eX11_does_487 rfl ?_
    refine q_iconst eX11_does_489 kiconst_1 ?_
    refine q_icmp_ne (tgt := 508) eX11_does_490 (by decide) (fun _ => ?_) (fun _ => ?_)
    · refine q_iload 1 eX11_does_493 rfl ?_
      refine q_iload 0 eX11_does_495 rfl ?_
      refine q_icmp_eq (tgt := 504) eX11_does_497 (by decide) (fun _ => ?_) (fun _ => ?_)
      · refine q_iconst eX11_does_504 kiconst_0 ?_
        refine q_goto (tgt := 541) eX11_does_505 (by decide) ?_
        exact q_sub [2, 3, 4] rfl (jX11_does_n541 X l rec38 hr38 x4 x5 0 w1)
      · refine q_iconst eX11_does_500 kiconst_1 ?_
        refine q_goto (tgt := 541) eX11_does_501 (by decide) ?_
        exact q_sub [2, 3, 4] rfl (jX11_does_n541 X l rec38 hr38 x4 x5 1 w1)
    · refine q_iload 5 eX11_does_508 rfl ?_
      refine q_iconst eX11_does_510 kiconst_2 ?_
      refine q_icmp_ne (tgt := 529) eX11_does_511 (by decide) (fun _ => ?_) (fun _ => ?_)
      · refine q_iload 1 eX11_does_514 rfl ?_
        refine q_iload 0 eX11_does_516 rfl ?_
        refine q_icmp_ge (tgt := 525) eX11_does_518 (by decide) (fun _ => ?_) (fun _ => ?_)
        · refine q_iconst eX11_does_525 kiconst_0 ?_
          refine q_goto (tgt := 541) eX11_does_526 (by decide) ?_
          exact q_sub [2, 3, 4] rfl (jX11_does_n541 X l rec38 hr38 x4 x5 0 w1)
        · refine q_iconst eX11_does_521 kiconst_1 ?_
          refine q_goto (tgt := 541) eX11_does_522 (by decide) ?_
          exact q_sub [2, 3, 4] rfl (jX11_does_n541 X l rec38 hr38 x4 x5 1 w1)
      · refine q_iload 1 eX11_does_529 rfl ?_
        refine q_iload 0 eX11_does_531 rfl ?_
        refine q_icmp_gt (tgt := 540) eX11_does_533 (by decide) (fun _ => ?_) (fun _ => ?_)
        · refine q_iconst eX11_does_540 kiconst_0 ?_
          exact q_sub [2, 3, 4] rfl (jX11_does_n541 X l rec38 hr38 x4 x5 0 w1)
        · refine q_iconst eX11_does_536 kiconst_1 ?_
          refine q_goto (tgt := 541) eX11_does_537 (by decide) ?_
          exact q_sub [2, 3, 4] rfl (jX11_does_n541 X l rec38 hr38 x4 x5 1 w1)
def fX11_does_n424 (rec38 : Int32 → Int32 → q_W → Option (Int32 × q_W)) (x4 : Int32) (x6 : Int32) (w : q_W) : Option (Int32 × q_W) :=
  q_lt (x6 - 1) fun y1 =>
  fX11_does_n890 rec38 x4 y1 w
set_option maxHeartbeats 4000000 in
set_option maxRecDepth 100000 in
theorem jX11_does_n424 (X : q_X) (l : Launch) (rec38 : Int32 → Int32 → q_W → Option (Int32 × q_W)) (hr38 : ∀ x4 x5 w, q_J X S_R l mX11_does 3 q_tI 38 [(0, .ref 0), (4, .int x4), (5, .int x5)] [] w (rec38 x4 x5 w)) (x4 : Int32) (x6 : Int32) (w : q_W) : q_J X S_R l mX11_does 3 q_tI 424 [(0, .ref 0), (4, .int x4), (6, .int x6)] [] w (fX11_does_n424 rec38 x4 x6 w) := by
  refine q_iload 2 eX11_does_424 rfl ?_
  refine q_iconst eX11_does_426 kiconst_1 ?_
  refine q_isub eX11_does_427 ?_
  refine q_ltI (fun y1 => ?_)
  refine q_istore (lv' := [(5, .int y1), (0, .ref 0), (4, .int x4), (6, .int x6)]) eX11_does_428 (by decide) rfl ?_
  refine q_goto (tgt := 890) eX11_does_430 (by decide) ?_
  exact q_sub [1, 2, 0] rfl (jX11_does_n890 X l rec38 hr38 x4 y1 w)
def fX11_does_n375 (rec38 : Int32 → Int32 → q_W → Option (Int32 × q_W)) (x4 : Int32) (x5 : Int32) (x6 : Int32) (x7 : Int32) (x8 : Int32) (w : q_W) : Option (Int32 × q_W) :=
  q_lt (x8 + x6) fun y1 =>
  if q_inb y1 144 then
  q_lt ((x8 + 8) + x6) fun y2 =>
  if q_inb y2 144 then
  if (w.1 23 (q_ix y1)) = (w.1 23 (q_ix y2)) then
    fX11_does_n890 rec38 x4 x5 w
  else
    q_lt (x8 + x6) fun y3 =>
    if q_inb y3 144 then
    if q_inb y3 144 then
    q_lt (q_sI w 23 (q_ix y3) ((w.1 23 (q_ix y3)) + 1)) fun w4 =>
    q_lt (x7 - 1) fun y5 =>
    fX11_does_n890 rec38 x4 y5 w4
    else none
    else none
  else none
  else none
set_option maxHeartbeats 4000000 in
set_option maxRecDepth 100000 in
theorem jX11_does_n375 (X : q_X) (l : Launch) (rec38 : Int32 → Int32 → q_W → Option (Int32 × q_W)) (hr38 : ∀ x4 x5 w, q_J X S_R l mX11_does 3 q_tI 38 [(0, .ref 0), (4, .int x4), (5, .int x5)] [] w (rec38 x4 x5 w)) (x4 : Int32) (x5 : Int32) (x6 : Int32) (x7 : Int32) (x8 : Int32) (w : q_W) : q_J X S_R l mX11_does 3 q_tI 375 [(0, .ref 0), (4, .int x4), (5, .int x5), (6, .int x6), (7, .int x7), (8, .int x8)] [] w (fX11_does_n375 rec38 x4 x5 x6 x7 x8 w) := by
  refine q_aload_n 0 eX11_does_375 rfl rfl ?_
  refine q_getG (v := 23) eX11_does_376 fl_11_85 tR_0 rfl gR_0_45 ?_
  refine q_iload 5 eX11_does_379 rfl ?_
  refine q_iload 3 eX11_does_381 rfl ?_
  refine q_iadd eX11_does_383 ?_
  refine q_ltI (fun y1 => ?_)
  refine q_iald eX11_does_384 tR_23 nR_23 ?_
  refine q_aload_n 0 eX11_does_385 rfl rfl ?_
  refine q_getG (v := 23) eX11_does_386 fl_11_85 tR_0 rfl gR_0_45 ?_
  refine q_iload 5 eX11_does_389 rfl ?_
  refine q_bipush eX11_does_391 kbipush_8 ?_
  refine q_iadd eX11_does_393 ?_
  refine q_iload 3 eX11_does_394 rfl ?_
  refine q_iadd eX11_does_396 ?_
  refine q_ltI (fun y2 => ?_)
  refine q_iald eX11_does_397 tR_23 nR_23 ?_
  refine q_icmp_eq (tgt := 890) eX11_does_398 (by decide) (fun _ => ?_) (fun _ => ?_)
  · exact q_sub [0, 1, 2] rfl (jX11_does_n890 X l rec38 hr38 x4 x5 w)
  · refine q_aload_n 0 eX11_does_401 rfl rfl ?_
    refine q_getG (v := 23) eX11_does_402 fl_11_85 tR_0 rfl gR_0_45 ?_
    refine q_iload 5 eX11_does_405 rfl ?_
    refine q_iload 3 eX11_does_407 rfl ?_
    refine q_iadd eX11_does_409 ?_
    refine q_ltI (fun y3 => ?_)
    refine q_dup2 eX11_does_410 rfl rfl ?_
    refine q_iald eX11_does_411 tR_23 nR_23 ?_
    refine q_iconst eX11_does_412 kiconst_1 ?_
    refine q_iadd eX11_does_413 ?_
    refine q_iast eX11_does_414 tR_23 nR_23 ?_
    refine q_ltW (fun w4 => ?_)
    refine q_iload 4 eX11_does_415 rfl ?_
    refine q_iconst eX11_does_417 kiconst_1 ?_
    refine q_isub eX11_does_418 ?_
    refine q_ltI (fun y5 => ?_)
    refine q_istore (lv' := [(5, .int y5), (0, .ref 0), (4, .int x4), (6, .int x6), (7, .int x7), (8, .int x8)]) eX11_does_419 (by decide) rfl ?_
    refine q_goto (tgt := 890) eX11_does_421 (by decide) ?_
    exact q_sub [1, 2, 0] rfl (jX11_does_n890 X l rec38 hr38 x4 y5 w4)
def fX11_does_n360 (rec38 : Int32 → Int32 → q_W → Option (Int32 × q_W)) (x4 : Int32) (x5 : Int32) (x6 : Int32) (w : q_W) : Option (Int32 × q_W) :=
  q_lt (q_sI w 0 44 x6) fun w1 =>
  q_b (fX11_isOver w1) fun r2 w3 =>
  if r2 = 0 then
    fX11_does_n890 rec38 x4 x5 w3
  else
    some (1, w3)
set_option maxHeartbeats 4000000 in
set_option maxRecDepth 100000 in
theorem jX11_does_n360 (X : q_X) (l : Launch) (rec38 : Int32 → Int32 → q_W → Option (Int32 × q_W)) (hr38 : ∀ x4 x5 w, q_J X S_R l mX11_does 3 q_tI 38 [(0, .ref 0), (4, .int x4), (5, .int x5)] [] w (rec38 x4 x5 w)) (x4 : Int32) (x5 : Int32) (x6 : Int32) (w : q_W) : q_J X S_R l mX11_does 3 q_tI 360 [(0, .ref 0), (4, .int x4), (5, .int x5), (6, .int x6)] [] w (fX11_does_n360 rec38 x4 x5 x6 w) := by
  refine q_aload_n 0 eX11_does_360 rfl rfl ?_
  refine q_iload 3 eX11_does_361 rfl ?_
  refine q_putI eX11_does_363 fp_11_302 tR_0 rfl ⟨rfl, rfl⟩ ?_
  refine q_ltW (fun w1 => ?_)
  refine q_aload_n 0 eX11_does_366 rfl rfl ?_
  refine q_callVI (As := []) (st := []) eX11_does_367 cv_11_305 (kX11_isOver X l w1) tR_0 rfl (by decide) rfl rfl (Nat.le_of_ble_eq_true rfl) (by decide) (fun r2 w3 => ?_)
  refine q_if_eq (tgt := 890) eX11_does_370 (by decide) (fun _ => ?_) (fun _ => ?_)
  · exact q_sub [0, 1, 2] rfl (jX11_does_n890 X l rec38 hr38 x4 x5 w3)
  · refine q_iconst eX11_does_373 kiconst_1 ?_
    exact q_ireturn eX11_does_374 rfl
def fX11_does_n275 (rec38 : Int32 → Int32 → q_W → Option (Int32 × q_W)) (x4 : Int32) (x5 : Int32) (x6 : Int32) (x7 : Int32) (x8 : Int32) (w : q_W) : Option (Int32 × q_W) :=
  q_lt (q_sI w 0 48 ((w.1 0 48) - 2)) fun w1 =>
  q_lt (w1.1 0 48) fun y2 =>
  if q_inb y2 600 then
  q_lt (x8 + x6) fun y3 =>
  if q_inb y3 144 then
  q_lt (q_sI w1 23 (q_ix y3) (w1.1 25 (q_ix y2))) fun w4 =>
  q_lt ((w4.1 0 48) + 1) fun y5 =>
  if q_inb y5 600 then
  q_lt ((x8 + 8) + x6) fun y6 =>
  if q_inb y6 144 then
  q_lt (q_sI w4 23 (q_ix y6) (w4.1 25 (q_ix y5))) fun w7 =>
  q_lt ((w7.1 0 48) + 1) fun y8 =>
  if q_inb y8 600 then
  q_lt (w7.1 0 48) fun y9 =>
  if q_inb y9 600 then
  if (w7.1 25 (q_ix y9)) ≤ (w7.1 25 (q_ix y8)) then
    fX11_does_n890 rec38 x4 x5 w7
  else
    q_lt (x7 - 1) fun y10 =>
    fX11_does_n890 rec38 x4 y10 w7
  else none
  else none
  else none
  else none
  else none
  else none
set_option maxHeartbeats 4000000 in
set_option maxRecDepth 100000 in
theorem jX11_does_n275 (X : q_X) (l : Launch) (rec38 : Int32 → Int32 → q_W → Option (Int32 × q_W)) (hr38 : ∀ x4 x5 w, q_J X S_R l mX11_does 3 q_tI 38 [(0, .ref 0), (4, .int x4), (5, .int x5)] [] w (rec38 x4 x5 w)) (x4 : Int32) (x5 : Int32) (x6 : Int32) (x7 : Int32) (x8 : Int32) (w : q_W) : q_J X S_R l mX11_does 3 q_tI 275 [(0, .ref 0), (4, .int x4), (5, .int x5), (6, .int x6), (7, .int x7), (8, .int x8)] [] w (fX11_does_n275 rec38 x4 x5 x6 x7 x8 w) := by
  refine q_aload_n 0 eX11_does_275 rfl rfl ?_
  refine q_dup eX11_does_276 rfl ?_
  refine q_getI eX11_does_277 fl_11_299 tR_0 rfl ?_
  refine q_iconst eX11_does_280 kiconst_2 ?_
  refine q_isub eX11_does_281 ?_
  refine q_putI eX11_does_282 fp_11_299 tR_0 rfl ⟨rfl, rfl⟩ ?_
  refine q_ltW (fun w1 => ?_)
  refine q_aload_n 0 eX11_does_285 rfl rfl ?_
  refine q_getG (v := 23) eX11_does_286 fl_11_85 tR_0 rfl gR_0_45 ?_
  refine q_iload 5 eX11_does_289 rfl ?_
  refine q_iload 3 eX11_does_291 rfl ?_
  refine q_iadd eX11_does_293 ?_
  refine q_aload_n 0 eX11_does_294 rfl rfl ?_
  refine q_getG (v := 25) eX11_does_295 fl_11_91 tR_0 rfl gR_0_47 ?_
  refine q_aload_n 0 eX11_does_298 rfl rfl ?_
  refine q_getI eX11_does_299 fl_11_299 tR_0 rfl ?_
  refine q_ltI (fun y2 => ?_)
  refine q_iald eX11_does_302 tR_25 nR_25 ?_
  refine q_ltI1 (fun y3 => ?_)
  refine q_iast eX11_does_303 tR_23 nR_23 ?_
  refine q_ltW (fun w4 => ?_)
  refine q_aload_n 0 eX11_does_304 rfl rfl ?_
  refine q_getG (v := 23) eX11_does_305 fl_11_85 tR_0 rfl gR_0_45 ?_
  refine q_iload 5 eX11_does_308 rfl ?_
  refine q_bipush eX11_does_310 kbipush_8 ?_
  refine q_iadd eX11_does_312 ?_
  refine q_iload 3 eX11_does_313 rfl ?_
  refine q_iadd eX11_does_315 ?_
  refine q_aload_n 0 eX11_does_316 rfl rfl ?_
  refine q_getG (v := 25) eX11_does_317 fl_11_91 tR_0 rfl gR_0_47 ?_
  refine q_aload_n 0 eX11_does_320 rfl rfl ?_
  refine q_getI eX11_does_321 fl_11_299 tR_0 rfl ?_
  refine q_iconst eX11_does_324 kiconst_1 ?_
  refine q_iadd eX11_does_325 ?_
  refine q_ltI (fun y5 => ?_)
  refine q_iald eX11_does_326 tR_25 nR_25 ?_
  refine q_ltI1 (fun y6 => ?_)
  refine q_iast eX11_does_327 tR_23 nR_23 ?_
  refine q_ltW (fun w7 => ?_)
  refine q_aload_n 0 eX11_does_328 rfl rfl ?_
  refine q_getG (v := 25) eX11_does_329 fl_11_91 tR_0 rfl gR_0_47 ?_
  refine q_aload_n 0 eX11_does_332 rfl rfl ?_
  refine q_getI eX11_does_333 fl_11_299 tR_0 rfl ?_
  refine q_iconst eX11_does_336 kiconst_1 ?_
  refine q_iadd eX11_does_337 ?_
  refine q_ltI (fun y8 => ?_)
  refine q_iald eX11_does_338 tR_25 nR_25 ?_
  refine q_aload_n 0 eX11_does_339 rfl rfl ?_
  refine q_getG (v := 25) eX11_does_340 fl_11_91 tR_0 rfl gR_0_47 ?_
  refine q_aload_n 0 eX11_does_343 rfl rfl ?_
  refine q_getI eX11_does_344 fl_11_299 tR_0 rfl ?_
  refine q_ltI (fun y9 => ?_)
  refine q_iald eX11_does_347 tR_25 nR_25 ?_
  refine q_icmp_ge (tgt := 890) eX11_does_348 (by decide) (fun _ => ?_) (fun _ => ?_)
  · exact q_sub [0, 1, 2] rfl (jX11_does_n890 X l rec38 hr38 x4 x5 w7)
  · refine q_iload 4 eX11_does_351 rfl ?_
    refine q_iconst eX11_does_353 kiconst_1 ?_
    refine q_isub eX11_does_354 ?_
    refine q_ltI (fun y10 => ?_)
    refine q_istore (lv' := [(5, .int y10), (0, .ref 0), (4, .int x4), (6, .int x6), (7, .int x7), (8, .int x8)]) eX11_does_355 (by decide) rfl ?_
    refine q_goto (tgt := 890) eX11_does_357 (by decide) ?_
    exact q_sub [1, 2, 0] rfl (jX11_does_n890 X l rec38 hr38 x4 y10 w7)
def fX11_does_n257 (rec38 : Int32 → Int32 → q_W → Option (Int32 × q_W)) (x4 : Int32) (x5 : Int32) (x6 : Int32) (x7 : Int32) (w : q_W) : Option (Int32 × q_W) :=
  q_b (fX11_strokes x6 x7 w) fun r1 w2 =>
  if r1 ≤ 0 then
    fX11_does_n890 rec38 x4 x5 w2
  else
    some (r1, w2)
set_option maxHeartbeats 4000000 in
set_option maxRecDepth 100000 in
theorem jX11_does_n257 (X : q_X) (l : Launch) (rec38 : Int32 → Int32 → q_W → Option (Int32 × q_W)) (hr38 : ∀ x4 x5 w, q_J X S_R l mX11_does 3 q_tI 38 [(0, .ref 0), (4, .int x4), (5, .int x5)] [] w (rec38 x4 x5 w)) (x4 : Int32) (x5 : Int32) (x6 : Int32) (x7 : Int32) (w : q_W) : q_J X S_R l mX11_does 3 q_tI 257 [(0, .ref 0), (4, .int x4), (5, .int x5), (6, .int x6), (7, .int x7)] [] w (fX11_does_n257 rec38 x4 x5 x6 x7 w) := by
  refine q_aload_n 0 eX11_does_257 rfl rfl ?_
  refine q_iload 3 eX11_does_258 rfl ?_
  refine q_iload 4 eX11_does_260 rfl ?_
  refine q_callVI (As := [.int x6, .int x7]) (st := []) eX11_does_262 cv_11_309 (kX11_strokes X l x6 x7 w) tR_0 rfl (by decide) rfl rfl (Nat.le_of_ble_eq_true rfl) (by decide) (fun r1 w2 => ?_)
  refine q_istore (lv' := [(9, .int r1), (0, .ref 0), (4, .int x4), (5, .int x5), (6, .int x6), (7, .int x7)]) eX11_does_265 (by decide) rfl ?_
  refine q_iload 0 eX11_does_267 rfl ?_
  refine q_if_le (tgt := 890) eX11_does_269 (by decide) (fun _ => ?_) (fun _ => ?_)
  · exact q_sub [1, 2, 3] rfl (jX11_does_n890 X l rec38 hr38 x4 x5 w2)
  · refine q_iload 0 eX11_does_272 rfl ?_
    exact q_ireturn eX11_does_274 rfl
def fX11_does_n242 (rec38 : Int32 → Int32 → q_W → Option (Int32 × q_W)) (x4 : Int32) (x5 : Int32) (x6 : Int32) (w : q_W) : Option (Int32 × q_W) :=
  q_lt (q_sI w 0 44 x6) fun w1 =>
  q_b (fX11_isOver w1) fun r2 w3 =>
  if r2 = 0 then
    fX11_does_n890 rec38 x4 x5 w3
  else
    some (1, w3)
set_option maxHeartbeats 4000000 in
set_option maxRecDepth 100000 in
theorem jX11_does_n242 (X : q_X) (l : Launch) (rec38 : Int32 → Int32 → q_W → Option (Int32 × q_W)) (hr38 : ∀ x4 x5 w, q_J X S_R l mX11_does 3 q_tI 38 [(0, .ref 0), (4, .int x4), (5, .int x5)] [] w (rec38 x4 x5 w)) (x4 : Int32) (x5 : Int32) (x6 : Int32) (w : q_W) : q_J X S_R l mX11_does 3 q_tI 242 [(0, .ref 0), (4, .int x4), (5, .int x5), (6, .int x6)] [] w (fX11_does_n242 rec38 x4 x5 x6 w) := by
  refine q_aload_n 0 eX11_does_242 rfl rfl ?_
  refine q_iload 3 eX11_does_243 rfl ?_
  refine q_putI eX11_does_245 fp_11_302 tR_0 rfl ⟨rfl, rfl⟩ ?_
  refine q_ltW (fun w1 => ?_)
  refine q_aload_n 0 eX11_does_248 rfl rfl ?_
  refine q_callVI (As := []) (st := []) eX11_does_249 cv_11_305 (kX11_isOver X l w1) tR_0 rfl (by decide) rfl rfl (Nat.le_of_ble_eq_true rfl) (by decide) (fun r2 w3 => ?_)
  refine q_if_eq (tgt := 890) eX11_does_252 (by decide) (fun _ => ?_) (fun _ => ?_)
  · exact q_sub [0, 1, 2] rfl (jX11_does_n890 X l rec38 hr38 x4 x5 w3)
  · refine q_iconst eX11_does_255 kiconst_1 ?_
    exact q_ireturn eX11_does_256 rfl
def fX11_does_n216 (rec38 : Int32 → Int32 → q_W → Option (Int32 × q_W)) (x4 : Int32) (x5 : Int32) (w : q_W) : Option (Int32 × q_W) :=
  q_lt ((w.1 0 48) - 1) fun y1 =>
  if q_inb y1 600 then
  q_lt ((w.1 0 48) - 1) fun y2 =>
  if q_inb y2 600 then
  q_lt (q_sI w 25 (q_ix y2) (0 - (w.1 25 (q_ix y1)))) fun w3 =>
  fX11_does_n890 rec38 x4 x5 w3
  else none
  else none
set_option maxHeartbeats 4000000 in
set_option maxRecDepth 100000 in
theorem jX11_does_n216 (X : q_X) (l : Launch) (rec38 : Int32 → Int32 → q_W → Option (Int32 × q_W)) (hr38 : ∀ x4 x5 w, q_J X S_R l mX11_does 3 q_tI 38 [(0, .ref 0), (4, .int x4), (5, .int x5)] [] w (rec38 x4 x5 w)) (x4 : Int32) (x5 : Int32) (w : q_W) : q_J X S_R l mX11_does 3 q_tI 216 [(0, .ref 0), (4, .int x4), (5, .int x5)] [] w (fX11_does_n216 rec38 x4 x5 w) := by
  refine q_aload_n 0 eX11_does_216 rfl rfl ?_
  refine q_getG (v := 25) eX11_does_217 fl_11_91 tR_0 rfl gR_0_47 ?_
  refine q_aload_n 0 eX11_does_220 rfl rfl ?_
  refine q_getI eX11_does_221 fl_11_299 tR_0 rfl ?_
  refine q_iconst eX11_does_224 kiconst_1 ?_
  refine q_isub eX11_does_225 ?_
  refine q_aload_n 0 eX11_does_226 rfl rfl ?_
  refine q_getG (v := 25) eX11_does_227 fl_11_91 tR_0 rfl gR_0_47 ?_
  refine q_aload_n 0 eX11_does_230 rfl rfl ?_
  refine q_getI eX11_does_231 fl_11_299 tR_0 rfl ?_
  refine q_iconst eX11_does_234 kiconst_1 ?_
  refine q_isub eX11_does_235 ?_
  refine q_ltI (fun y1 => ?_)
  refine q_iald eX11_does_236 tR_25 nR_25 ?_
  refine q_ineg eX11_does_237 ?_
  refine q_ltI1 (fun y2 => ?_)
  refine q_iast eX11_does_238 tR_25 nR_25 ?_
  refine q_ltW (fun w3 => ?_)
  refine q_goto (tgt := 890) eX11_does_239 (by decide) ?_
  exact q_sub [0, 1, 2] rfl (jX11_does_n890 X l rec38 hr38 x4 x5 w3)
def fX11_does_n184 (rec38 : Int32 → Int32 → q_W → Option (Int32 × q_W)) (x4 : Int32) (x5 : Int32) (x6 : Int32) (x8 : Int32) (w : q_W) : Option (Int32 × q_W) :=
  q_lt (x8 + x6) fun y1 =>
  if q_inb y1 144 then
  q_lt (w.1 0 48) fun y2 =>
  if q_inb y2 600 then
  q_lt (q_sI w 25 (q_ix y2) (w.1 23 (q_ix y1))) fun w3 =>
  q_lt (q_sI w3 0 48 ((w3.1 0 48) + 1)) fun w4 =>
  fX11_does_n890 rec38 x4 x5 w4
  else none
  else none
set_option maxHeartbeats 4000000 in
set_option maxRecDepth 100000 in
theorem jX11_does_n184 (X : q_X) (l : Launch) (rec38 : Int32 → Int32 → q_W → Option (Int32 × q_W)) (hr38 : ∀ x4 x5 w, q_J X S_R l mX11_does 3 q_tI 38 [(0, .ref 0), (4, .int x4), (5, .int x5)] [] w (rec38 x4 x5 w)) (x4 : Int32) (x5 : Int32) (x6 : Int32) (x8 : Int32) (w : q_W) : q_J X S_R l mX11_does 3 q_tI 184 [(0, .ref 0), (4, .int x4), (5, .int x5), (6, .int x6), (8, .int x8)] [] w (fX11_does_n184 rec38 x4 x5 x6 x8 w) := by
  refine q_aload_n 0 eX11_does_184 rfl rfl ?_
  refine q_getG (v := 25) eX11_does_185 fl_11_91 tR_0 rfl gR_0_47 ?_
  refine q_aload_n 0 eX11_does_188 rfl rfl ?_
  refine q_getI eX11_does_189 fl_11_299 tR_0 rfl ?_
  refine q_aload_n 0 eX11_does_192 rfl rfl ?_
  refine q_getG (v := 23) eX11_does_193 fl_11_85 tR_0 rfl gR_0_45 ?_
  refine q_iload 4 eX11_does_196 rfl ?_
  refine q_iload 3 eX11_does_198 rfl ?_
  refine q_iadd eX11_does_200 ?_
  refine q_ltI (fun y1 => ?_)
  refine q_iald eX11_does_201 tR_23 nR_23 ?_
  refine q_ltI1 (fun y2 => ?_)
  refine q_iast eX11_does_202 tR_25 nR_25 ?_
  refine q_ltW (fun w3 => ?_)
  refine q_aload_n 0 eX11_does_203 rfl rfl ?_
  refine q_dup eX11_does_204 rfl ?_
  refine q_getI eX11_does_205 fl_11_299 tR_0 rfl ?_
  refine q_iconst eX11_does_208 kiconst_1 ?_
  refine q_iadd eX11_does_209 ?_
  refine q_putI eX11_does_210 fp_11_299 tR_0 rfl ⟨rfl, rfl⟩ ?_
  refine q_ltW (fun w4 => ?_)
  refine q_goto (tgt := 890) eX11_does_213 (by decide) ?_
  exact q_sub [0, 1, 2] rfl (jX11_does_n890 X l rec38 hr38 x4 x5 w4)
def fX11_does_n160 (rec38 : Int32 → Int32 → q_W → Option (Int32 × q_W)) (x4 : Int32) (x5 : Int32) (x6 : Int32) (w : q_W) : Option (Int32 × q_W) :=
  q_lt (w.1 0 48) fun y1 =>
  if q_inb y1 600 then
  q_lt (q_sI w 25 (q_ix y1) x6) fun w2 =>
  q_lt (q_sI w2 0 48 ((w2.1 0 48) + 1)) fun w3 =>
  fX11_does_n890 rec38 x4 x5 w3
  else none
set_option maxHeartbeats 4000000 in
set_option maxRecDepth 100000 in
theorem jX11_does_n160 (X : q_X) (l : Launch) (rec38 : Int32 → Int32 → q_W → Option (Int32 × q_W)) (hr38 : ∀ x4 x5 w, q_J X S_R l mX11_does 3 q_tI 38 [(0, .ref 0), (4, .int x4), (5, .int x5)] [] w (rec38 x4 x5 w)) (x4 : Int32) (x5 : Int32) (x6 : Int32) (w : q_W) : q_J X S_R l mX11_does 3 q_tI 160 [(0, .ref 0), (4, .int x4), (5, .int x5), (6, .int x6)] [] w (fX11_does_n160 rec38 x4 x5 x6 w) := by
  refine q_aload_n 0 eX11_does_160 rfl rfl ?_
  refine q_getG (v := 25) eX11_does_161 fl_11_91 tR_0 rfl gR_0_47 ?_
  refine q_aload_n 0 eX11_does_164 rfl rfl ?_
  refine q_getI eX11_does_165 fl_11_299 tR_0 rfl ?_
  refine q_iload 3 eX11_does_168 rfl ?_
  refine q_ltI1 (fun y1 => ?_)
  refine q_iast eX11_does_170 tR_25 nR_25 ?_
  refine q_ltW (fun w2 => ?_)
  refine q_aload_n 0 eX11_does_171 rfl rfl ?_
  refine q_dup eX11_does_172 rfl ?_
  refine q_getI eX11_does_173 fl_11_299 tR_0 rfl ?_
  refine q_iconst eX11_does_176 kiconst_1 ?_
  refine q_iadd eX11_does_177 ?_
  refine q_putI eX11_does_178 fp_11_299 tR_0 rfl ⟨rfl, rfl⟩ ?_
  refine q_ltW (fun w3 => ?_)
  refine q_goto (tgt := 890) eX11_does_181 (by decide) ?_
  exact q_sub [0, 1, 2] rfl (jX11_does_n890 X l rec38 hr38 x4 x5 w3)
def fX11_does_h38 (rec38 : Int32 → Int32 → q_W → Option (Int32 × q_W)) (x4 : Int32) (x5 : Int32) (w : q_W) : Option (Int32 × q_W) :=
  if q_inb x5 4000 then
  q_lt (w.1 13 (q_ix x5)) fun y1 =>
  if q_inb x5 4000 then
  q_lt (w.1 14 (q_ix x5)) fun y2 =>
  q_lt (16 * x4) fun y3 =>
  if q_inb x5 4000 then
  q_lt (w.1 12 (q_ix x5)) fun y4 =>
  if y4 = 0 then
    fX11_does_n160 rec38 x4 x5 y1 w
  else if y4 = 1 then
    fX11_does_n184 rec38 x4 x5 y1 y3 w
  else if y4 = 7 then
    fX11_does_n216 rec38 x4 x5 w
  else if y4 = 8 then
    fX11_does_n242 rec38 x4 x5 y1 w
  else if y4 = 9 then
    fX11_does_n257 rec38 x4 x5 y1 y2 w
  else if y4 = 10 then
    fX11_does_n275 rec38 x4 x5 y1 y2 y3 w
  else if y4 = 11 then
    fX11_does_n360 rec38 x4 x5 y1 w
  else if y4 = 12 then
    fX11_does_n375 rec38 x4 x5 y1 y2 y3 w
  else if y4 = 13 then
    fX11_does_n424 rec38 x4 y1 w
  else if y4 = 14 then
    fX11_does_n433 rec38 x4 x5 y1 w
  else if y4 = 15 then
    fX11_does_n575 rec38 x4 x5 y1 w
  else if y4 = 16 then
    fX11_does_n606 rec38 x4 x5 y1 w
  else if y4 = 17 then
    fX11_does_n638 rec38 x4 x5 y1 y2 w
  else if y4 = 18 then
    fX11_does_n724 rec38 x4 w
  else fX11_does_n746 rec38 x4 x5 w
  else none
  else none
  else none
def fX11_does_l38 : Int32 → Int32 → q_W → Option (Int32 × q_W) := q_it q_N (fX11_does_h38) (fun _ _ _ => none)
set_option maxHeartbeats 4000000 in
set_option maxRecDepth 100000 in
theorem jX11_does_h38 (X : q_X) (l : Launch) (rec38 : Int32 → Int32 → q_W → Option (Int32 × q_W)) (hr38 : ∀ x4 x5 w, q_J X S_R l mX11_does 3 q_tI 38 [(0, .ref 0), (4, .int x4), (5, .int x5)] [] w (rec38 x4 x5 w)) : ∀ x4 x5 w, q_J X S_R l mX11_does 3 q_tI 38 [(0, .ref 0), (4, .int x4), (5, .int x5)] [] w (fX11_does_h38 rec38 x4 x5 w) := by
  intro x4 x5 w
  refine q_aload_n 0 eX11_does_38 rfl rfl ?_
  refine q_getG (v := 13) eX11_does_39 fl_11_55 tR_0 rfl gR_0_26 ?_
  refine q_iload 2 eX11_does_42 rfl ?_
  refine q_iald eX11_does_44 tR_13 nR_13 ?_
  refine q_ltI (fun y1 => ?_)
  refine q_istore (lv' := [(6, .int y1), (0, .ref 0), (4, .int x4), (5, .int x5)]) eX11_does_45 (by decide) rfl ?_
  refine q_aload_n 1 eX11_does_47 rfl rfl ?_
  refine q_getG (v := 14) eX11_does_48 fl_11_58 tR_0 rfl gR_0_27 ?_
  refine q_iload 3 eX11_does_51 rfl ?_
  refine q_iald eX11_does_53 tR_14 nR_14 ?_
  refine q_ltI (fun y2 => ?_)
  refine q_istore (lv' := [(7, .int y2), (6, .int y1), (0, .ref 0), (4, .int x4), (5, .int x5)]) eX11_does_54 (by decide) rfl ?_
  refine q_bipush eX11_does_56 kbipush_16 ?_
  refine q_iload 3 eX11_does_58 rfl ?_
  refine q_imul eX11_does_60 ?_
  refine q_ltI (fun y3 => ?_)
  refine q_istore (lv' := [(8, .int y3), (7, .int y2), (6, .int y1), (0, .ref 0), (4, .int x4), (5, .int x5)]) eX11_does_61 (by decide) rfl ?_
  refine q_aload_n 3 eX11_does_63 rfl rfl ?_
  refine q_getG (v := 12) eX11_does_64 fl_11_52 tR_0 rfl gR_0_25 ?_
  refine q_iload 5 eX11_does_67 rfl ?_
  refine q_iald eX11_does_69 tR_12 nR_12 ?_
  refine q_ltI (fun y4 => ?_)
  refine q_ite (fun c5 => ?_) (fun c5 => ?_)
  · refine q_tabIn (off := 90) (tgt := 160) eX11_does_70 (by rw [c5]; decide) (by rw [c5]; decide) (by rw [c5]; rfl) (by decide) ?_
    exact q_sub [3, 4, 5, 2] rfl (jX11_does_n160 X l rec38 hr38 x4 x5 y1 w)
  refine q_ite (fun c6 => ?_) (fun c6 => ?_)
  · refine q_tabIn (off := 114) (tgt := 184) eX11_does_70 (by rw [c6]; decide) (by rw [c6]; decide) (by rw [c6]; rfl) (by decide) ?_
    exact q_sub [3, 4, 5, 2, 0] rfl (jX11_does_n184 X l rec38 hr38 x4 x5 y1 y3 w)
  refine q_ite (fun c7 => ?_) (fun c7 => ?_)
  · refine q_tabIn (off := 146) (tgt := 216) eX11_does_70 (by rw [c7]; decide) (by rw [c7]; decide) (by rw [c7]; rfl) (by decide) ?_
    exact q_sub [3, 4, 5] rfl (jX11_does_n216 X l rec38 hr38 x4 x5 w)
  refine q_ite (fun c8 => ?_) (fun c8 => ?_)
  · refine q_tabIn (off := 172) (tgt := 242) eX11_does_70 (by rw [c8]; decide) (by rw [c8]; decide) (by rw [c8]; rfl) (by decide) ?_
    exact q_sub [3, 4, 5, 2] rfl (jX11_does_n242 X l rec38 hr38 x4 x5 y1 w)
  refine q_ite (fun c9 => ?_) (fun c9 => ?_)
  · refine q_tabIn (off := 187) (tgt := 257) eX11_does_70 (by rw [c9]; decide) (by rw [c9]; decide) (by rw [c9]; rfl) (by decide) ?_
    exact q_sub [3, 4, 5, 2, 1] rfl (jX11_does_n257 X l rec38 hr38 x4 x5 y1 y2 w)
  refine q_ite (fun c10 => ?_) (fun c10 => ?_)
  · refine q_tabIn (off := 205) (tgt := 275) eX11_does_70 (by rw [c10]; decide) (by rw [c10]; decide) (by rw [c10]; rfl) (by decide) ?_
    exact q_sub [3, 4, 5, 2, 1, 0] rfl (jX11_does_n275 X l rec38 hr38 x4 x5 y1 y2 y3 w)
  refine q_ite (fun c11 => ?_) (fun c11 => ?_)
  · refine q_tabIn (off := 290) (tgt := 360) eX11_does_70 (by rw [c11]; decide) (by rw [c11]; decide) (by rw [c11]; rfl) (by decide) ?_
    exact q_sub [3, 4, 5, 2] rfl (jX11_does_n360 X l rec38 hr38 x4 x5 y1 w)
  refine q_ite (fun c12 => ?_) (fun c12 => ?_)
  · refine q_tabIn (off := 305) (tgt := 375) eX11_does_70 (by rw [c12]; decide) (by rw [c12]; decide) (by rw [c12]; rfl) (by decide) ?_
    exact q_sub [3, 4, 5, 2, 1, 0] rfl (jX11_does_n375 X l rec38 hr38 x4 x5 y1 y2 y3 w)
  refine q_ite (fun c13 => ?_) (fun c13 => ?_)
  · refine q_tabIn (off := 354) (tgt := 424) eX11_does_70 (by rw [c13]; decide) (by rw [c13]; decide) (by rw [c13]; rfl) (by decide) ?_
    exact q_sub [3, 4, 2] rfl (jX11_does_n424 X l rec38 hr38 x4 y1 w)
  refine q_ite (fun c14 => ?_) (fun c14 => ?_)
  · refine q_tabIn (off := 363) (tgt := 433) eX11_does_70 (by rw [c14]; decide) (by rw [c14]; decide) (by rw [c14]; rfl) (by decide) ?_
    exact q_sub [3, 4, 5, 2] rfl (jX11_does_n433 X l rec38 hr38 x4 x5 y1 w)
  refine q_ite (fun c15 => ?_) (fun c15 => ?_)
  · refine q_tabIn (off := 505) (tgt := 575) eX11_does_70 (by rw [c15]; decide) (by rw [c15]; decide) (by rw [c15]; rfl) (by decide) ?_
    exact q_sub [3, 4, 5, 2] rfl (jX11_does_n575 X l rec38 hr38 x4 x5 y1 w)
  refine q_ite (fun c16 => ?_) (fun c16 => ?_)
  · refine q_tabIn (off := 536) (tgt := 606) eX11_does_70 (by rw [c16]; decide) (by rw [c16]; decide) (by rw [c16]; rfl) (by decide) ?_
    exact q_sub [3, 4, 5, 2] rfl (jX11_does_n606 X l rec38 hr38 x4 x5 y1 w)
  refine q_ite (fun c17 => ?_) (fun c17 => ?_)
  · refine q_tabIn (off := 568) (tgt := 638) eX11_does_70 (by rw [c17]; decide) (by rw [c17]; decide) (by rw [c17]; rfl) (by decide) ?_
    exact q_sub [3, 4, 5, 2, 1] rfl (jX11_does_n638 X l rec38 hr38 x4 x5 y1 y2 w)
  refine q_ite (fun c18 => ?_) (fun c18 => ?_)
  · refine q_tabIn (off := 654) (tgt := 724) eX11_does_70 (by rw [c18]; decide) (by rw [c18]; decide) (by rw [c18]; rfl) (by decide) ?_
    exact q_sub [3, 4] rfl (jX11_does_n724 X l rec38 hr38 x4 w)
  refine q_tabD (x := y4) (tgt := 746) eX11_does_70 (by intro z1 z2; have zc5 := lv_neT (a := 0) c5 rfl; have zc6 := lv_neT (a := 1) c6 rfl; have zc7 := lv_neT (a := 7) c7 rfl; have zc8 := lv_neT (a := 8) c8 rfl; have zc9 := lv_neT (a := 9) c9 rfl; have zc10 := lv_neT (a := 10) c10 rfl; have zc11 := lv_neT (a := 11) c11 rfl; have zc12 := lv_neT (a := 12) c12 rfl; have zc13 := lv_neT (a := 13) c13 rfl; have zc14 := lv_neT (a := 14) c14 rfl; have zc15 := lv_neT (a := 15) c15 rfl; have zc16 := lv_neT (a := 16) c16 rfl; have zc17 := lv_neT (a := 17) c17 rfl; have zc18 := lv_neT (a := 18) c18 rfl; have zz : Int32.toInt y4 = 2 ∨ Int32.toInt y4 = 3 ∨ Int32.toInt y4 = 4 ∨ Int32.toInt y4 = 5 ∨ Int32.toInt y4 = 6 := (by omega); rcases zz with z | z | z | z | z <;> (rw [z]; rfl)) (by decide) ?_
  exact q_sub [3, 4, 5] rfl (jX11_does_n746 X l rec38 hr38 x4 x5 w)
set_option maxHeartbeats 4000000 in
set_option maxRecDepth 100000 in
theorem jX11_does_l38 (X : q_X) (l : Launch) : ∀ x4 x5 w, q_J X S_R l mX11_does 3 q_tI 38 [(0, .ref 0), (4, .int x4), (5, .int x5)] [] w (fX11_does_l38 x4 x5 w) := by
  exact q_it_ind (fun rc => ∀ x4 x5 w, q_J X S_R l mX11_does 3 q_tI 38 [(0, .ref 0), (4, .int x4), (5, .int x5)] [] w (rc x4 x5 w)) _ _ (fun _ _ _ => q_none) (fun rc hrc => jX11_does_h38 X l rc hrc) q_N
def fX11_does (a1 : Int32) (a2 : Int32) (a3 : Int32) (w : q_W) : Option (Int32 × q_W) :=
  q_lt (q_sI w 0 48 0) fun w1 =>
  if q_inb 0 144 then
  q_lt (q_sI w1 23 (q_ix 0) a2) fun w2 =>
  if q_inb 1 144 then
  q_lt (q_sI w2 23 (q_ix 1) a3) fun w3 =>
  q_lt ((8 * (w3.1 0 18)) + a1) fun y4 =>
  if q_inb y4 16 then
  q_lt (w3.1 11 (q_ix y4)) fun y5 =>
  fX11_does_l38 0 y5 w3
  else none
  else none
  else none
set_option maxHeartbeats 4000000 in
set_option maxRecDepth 100000 in
theorem kX11_does (X : q_X) (l : Launch) (a1 : Int32) (a2 : Int32) (a3 : Int32) (w : q_W) : q_Ct X S_R l mX11_does 3 q_tI [.ref 0, .int a1, .int a2, .int a3] w (fX11_does a1 a2 a3 w) := by
  refine q_intro (lv := [(0, .ref 0), (1, .int a1), (2, .int a2), (3, .int a3)]) (by decide +kernel) rfl (Nat.le_of_ble_eq_true rfl) rfl ?_
  refine q_iconst eX11_does_0 kiconst_0 ?_
  refine q_istore (lv' := [(4, .int 0), (0, .ref 0), (1, .int a1), (2, .int a2), (3, .int a3)]) eX11_does_1 (by decide) rfl ?_
  refine q_aload_n 1 eX11_does_3 rfl rfl ?_
  refine q_iconst eX11_does_4 kiconst_0 ?_
  refine q_putI eX11_does_5 fp_11_299 tR_0 rfl ⟨rfl, rfl⟩ ?_
  refine q_ltW (fun w1 => ?_)
  refine q_aload_n 1 eX11_does_8 rfl rfl ?_
  refine q_getG (v := 23) eX11_does_9 fl_11_85 tR_0 rfl gR_0_45 ?_
  refine q_iconst eX11_does_12 kiconst_0 ?_
  refine q_iload_n 3 eX11_does_13 rfl rfl ?_
  refine q_iast eX11_does_14 tR_23 nR_23 ?_
  refine q_ltW (fun w2 => ?_)
  refine q_aload_n 1 eX11_does_15 rfl rfl ?_
  refine q_getG (v := 23) eX11_does_16 fl_11_85 tR_0 rfl gR_0_45 ?_
  refine q_iconst eX11_does_19 kiconst_1 ?_
  refine q_iload_n 4 eX11_does_20 rfl rfl ?_
  refine q_iast eX11_does_21 tR_23 nR_23 ?_
  refine q_ltW (fun w3 => ?_)
  refine q_aload_n 1 eX11_does_22 rfl rfl ?_
  refine q_getG (v := 11) eX11_does_23 fl_11_49 tR_0 rfl gR_0_23 ?_
  refine q_bipush eX11_does_26 kbipush_8 ?_
  refine q_aload_n 1 eX11_does_28 rfl rfl ?_
  refine q_getI eX11_does_29 fl_11_206 tR_0 rfl ?_
  refine q_imul eX11_does_32 ?_
  refine q_iload_n 2 eX11_does_33 rfl rfl ?_
  refine q_iadd eX11_does_34 ?_
  refine q_ltI (fun y4 => ?_)
  refine q_iald eX11_does_35 tR_11 nR_11 ?_
  refine q_ltI (fun y5 => ?_)
  refine q_istore (lv' := [(5, .int y5), (4, .int 0), (0, .ref 0), (1, .int a1), (2, .int a2), (3, .int a3)]) eX11_does_36 (by decide) rfl ?_
  exact q_sub [2, 1, 0] rfl (jX11_does_l38 X l 0 y5 w3)
def fX11_logs_h12 (rec12 : Int32 → q_W → Option (Int32 × q_W)) (x2 : Int32) (w : q_W) : Option (Int32 × q_W) :=
  if 6 ≤ x2 then
    q_lt (q_sI w 0 50 ((w.1 0 50) + 1)) fun w1 =>
    some (((w1.1 0 50) - 1), w1)
  else
    if q_inb x2 6 then
    q_lt ((6 * (w.1 0 50)) + x2) fun y2 =>
    if q_inb y2 720 then
    q_lt (q_sI w 28 (q_ix y2) (w.1 26 (q_ix x2))) fun w3 =>
    q_lt (x2 + 1) fun y4 =>
    rec12 y4 w3
    else none
    else none
def fX11_logs_l12 : Int32 → q_W → Option (Int32 × q_W) := q_it q_N (fX11_logs_h12) (fun _ _ => none)
set_option maxHeartbeats 4000000 in
set_option maxRecDepth 100000 in
theorem jX11_logs_h12 (X : q_X) (l : Launch) (rec12 : Int32 → q_W → Option (Int32 × q_W)) (hr12 : ∀ x2 w, q_J X S_R l mX11_logs 0 q_tI 12 [(0, .ref 0), (2, .int x2)] [] w (rec12 x2 w)) : ∀ x2 w, q_J X S_R l mX11_logs 0 q_tI 12 [(0, .ref 0), (2, .int x2)] [] w (fX11_logs_h12 rec12 x2 w) := by
  intro x2 w
  refine q_iload_n 1 eX11_logs_12 rfl rfl ?_
  refine q_bipush eX11_logs_13 kbipush_6 ?_
  refine q_icmp_ge (tgt := 44) eX11_logs_15 (by decide) (fun _ => ?_) (fun _ => ?_)
  · refine q_aload_n 0 eX11_logs_44 rfl rfl ?_
    refine q_dup eX11_logs_45 rfl ?_
    refine q_getI eX11_logs_46 fl_11_320 tR_0 rfl ?_
    refine q_iconst eX11_logs_49 kiconst_1 ?_
    refine q_iadd eX11_logs_50 ?_
    refine q_putI eX11_logs_51 fp_11_320 tR_0 rfl ⟨rfl, rfl⟩ ?_
    refine q_ltW (fun w1 => ?_)
    refine q_aload_n 0 eX11_logs_54 rfl rfl ?_
    refine q_getI eX11_logs_55 fl_11_320 tR_0 rfl ?_
    refine q_iconst eX11_logs_58 kiconst_1 ?_
    refine q_isub eX11_logs_59 ?_
    exact q_ireturn eX11_logs_60 rfl
  · refine q_aload_n 0 eX11_logs_18 rfl rfl ?_
    refine q_getG (v := 28) eX11_logs_19 fl_11_100 tR_0 rfl gR_0_52 ?_
    refine q_bipush eX11_logs_22 kbipush_6 ?_
    refine q_aload_n 0 eX11_logs_24 rfl rfl ?_
    refine q_getI eX11_logs_25 fl_11_320 tR_0 rfl ?_
    refine q_imul eX11_logs_28 ?_
    refine q_iload_n 1 eX11_logs_29 rfl rfl ?_
    refine q_iadd eX11_logs_30 ?_
    refine q_aload_n 0 eX11_logs_31 rfl rfl ?_
    refine q_getG (v := 26) eX11_logs_32 fl_11_94 tR_0 rfl gR_0_49 ?_
    refine q_iload_n 1 eX11_logs_35 rfl rfl ?_
    refine q_iald eX11_logs_36 tR_26 nR_26 ?_
    refine q_ltI1 (fun y2 => ?_)
    refine q_iast eX11_logs_37 tR_28 nR_28 ?_
    refine q_ltW (fun w3 => ?_)
    refine q_ltE (fun y4 hy4 => ?_)
    refine q_iinc (v := y4) (lv' := [(2, .int y4), (0, .ref 0)]) 1 eX11_logs_38 rfl hy4 (by decide) rfl ?_
    refine q_goto (tgt := 12) eX11_logs_41 (by decide) ?_
    exact q_sub [1, 0] rfl (hr12 y4 w3)
set_option maxHeartbeats 4000000 in
set_option maxRecDepth 100000 in
theorem jX11_logs_l12 (X : q_X) (l : Launch) : ∀ x2 w, q_J X S_R l mX11_logs 0 q_tI 12 [(0, .ref 0), (2, .int x2)] [] w (fX11_logs_l12 x2 w) := by
  exact q_it_ind (fun rc => ∀ x2 w, q_J X S_R l mX11_logs 0 q_tI 12 [(0, .ref 0), (2, .int x2)] [] w (rc x2 w)) _ _ (fun _ _ => q_none) (fun rc hrc => jX11_logs_h12 X l rc hrc) q_N
def fX11_logs (a1 : Int32) (w : q_W) : Option (Int32 × q_W) :=
  q_lt (w.1 0 50) fun y1 =>
  if q_inb y1 120 then
  q_lt (q_sI w 27 (q_ix y1) a1) fun w2 =>
  fX11_logs_l12 0 w2
  else none
set_option maxHeartbeats 4000000 in
set_option maxRecDepth 100000 in
theorem kX11_logs (X : q_X) (l : Launch) (a1 : Int32) (w : q_W) : q_Ct X S_R l mX11_logs 0 q_tI [.ref 0, .int a1] w (fX11_logs a1 w) := by
  refine q_intro (lv := [(0, .ref 0), (1, .int a1)]) (by decide +kernel) rfl (Nat.le_of_ble_eq_true rfl) rfl ?_
  refine q_aload_n 0 eX11_logs_0 rfl rfl ?_
  refine q_getG (v := 27) eX11_logs_1 fl_11_97 tR_0 rfl gR_0_51 ?_
  refine q_aload_n 0 eX11_logs_4 rfl rfl ?_
  refine q_getI eX11_logs_5 fl_11_320 tR_0 rfl ?_
  refine q_iload_n 1 eX11_logs_8 rfl rfl ?_
  refine q_ltI1 (fun y1 => ?_)
  refine q_iast eX11_logs_9 tR_27 nR_27 ?_
  refine q_ltW (fun w2 => ?_)
  refine q_iconst eX11_logs_10 kiconst_0 ?_
  refine q_istore_n (lv' := [(2, .int 0), (0, .ref 0), (1, .int a1)]) eX11_logs_11 rfl (by decide) rfl ?_
  exact q_sub [1, 0] rfl (jX11_logs_l12 X l 0 w2)
def fX11_stroke (a1 : Int32) (a2 : Int32) (a3 : Int32) (a4 : Int32) (a5 : Int32) (a6 : Int32) (a7 : Int32) (w : q_W) : Option (Int32 × q_W) :=
  if q_inb 0 6 then
  q_lt (q_sI w 26 (q_ix 0) a2) fun w1 =>
  if q_inb 1 6 then
  q_lt (q_sI w1 26 (q_ix 1) a3) fun w2 =>
  if q_inb 2 6 then
  q_lt (q_sI w2 26 (q_ix 2) a4) fun w3 =>
  if q_inb 3 6 then
  q_lt (q_sI w3 26 (q_ix 3) a5) fun w4 =>
  if q_inb 4 6 then
  q_lt (q_sI w4 26 (q_ix 4) a6) fun w5 =>
  if q_inb 5 6 then
  q_lt (q_sI w5 26 (q_ix 5) a7) fun w6 =>
  if (w6.1 0 50) = 120 then
    some ((-1), w6)
  else
    q_b (fX11_isStroke a1 w6) fun r7 w8 =>
    if r7 = 0 then
      some ((-1), w8)
    else
      q_b (fX11_logs a1 w8) fun r9 w10 =>
      some (r9, w10)
  else none
  else none
  else none
  else none
  else none
  else none
set_option maxHeartbeats 4000000 in
set_option maxRecDepth 100000 in
theorem kX11_stroke (X : q_X) (l : Launch) (a1 : Int32) (a2 : Int32) (a3 : Int32) (a4 : Int32) (a5 : Int32) (a6 : Int32) (a7 : Int32) (w : q_W) : q_Ct X S_R l mX11_stroke 2 q_tI [.ref 0, .int a1, .int a2, .int a3, .int a4, .int a5, .int a6, .int a7] w (fX11_stroke a1 a2 a3 a4 a5 a6 a7 w) := by
  refine q_intro (lv := [(0, .ref 0), (1, .int a1), (2, .int a2), (3, .int a3), (4, .int a4), (5, .int a5), (6, .int a6), (7, .int a7)]) (by decide +kernel) rfl (Nat.le_of_ble_eq_true rfl) rfl ?_
  refine q_aload_n 0 eX11_stroke_0 rfl rfl ?_
  refine q_getG (v := 26) eX11_stroke_1 fl_11_94 tR_0 rfl gR_0_49 ?_
  refine q_iconst eX11_stroke_4 kiconst_0 ?_
  refine q_iload_n 2 eX11_stroke_5 rfl rfl ?_
  refine q_iast eX11_stroke_6 tR_26 nR_26 ?_
  refine q_ltW (fun w1 => ?_)
  refine q_aload_n 0 eX11_stroke_7 rfl rfl ?_
  refine q_getG (v := 26) eX11_stroke_8 fl_11_94 tR_0 rfl gR_0_49 ?_
  refine q_iconst eX11_stroke_11 kiconst_1 ?_
  refine q_iload_n 3 eX11_stroke_12 rfl rfl ?_
  refine q_iast eX11_stroke_13 tR_26 nR_26 ?_
  refine q_ltW (fun w2 => ?_)
  refine q_aload_n 0 eX11_stroke_14 rfl rfl ?_
  refine q_getG (v := 26) eX11_stroke_15 fl_11_94 tR_0 rfl gR_0_49 ?_
  refine q_iconst eX11_stroke_18 kiconst_2 ?_
  refine q_iload 4 eX11_stroke_19 rfl ?_
  refine q_iast eX11_stroke_21 tR_26 nR_26 ?_
  refine q_ltW (fun w3 => ?_)
  refine q_aload_n 0 eX11_stroke_22 rfl rfl ?_
  refine q_getG (v := 26) eX11_stroke_23 fl_11_94 tR_0 rfl gR_0_49 ?_
  refine q_iconst eX11_stroke_26 kiconst_3 ?_
  refine q_iload 5 eX11_stroke_27 rfl ?_
  refine q_iast eX11_stroke_29 tR_26 nR_26 ?_
  refine q_ltW (fun w4 => ?_)
  refine q_aload_n 0 eX11_stroke_30 rfl rfl ?_
  refine q_getG (v := 26) eX11_stroke_31 fl_11_94 tR_0 rfl gR_0_49 ?_
  refine q_iconst eX11_stroke_34 kiconst_4 ?_
  refine q_iload 6 eX11_stroke_35 rfl ?_
  refine q_iast eX11_stroke_37 tR_26 nR_26 ?_
  refine q_ltW (fun w5 => ?_)
  refine q_aload_n 0 eX11_stroke_38 rfl rfl ?_
  refine q_getG (v := 26) eX11_stroke_39 fl_11_94 tR_0 rfl gR_0_49 ?_
  refine q_iconst eX11_stroke_42 kiconst_5 ?_
  refine q_iload 7 eX11_stroke_43 rfl ?_
  refine q_iast eX11_stroke_45 tR_26 nR_26 ?_
  refine q_ltW (fun w6 => ?_)
  refine q_aload_n 0 eX11_stroke_46 rfl rfl ?_
  refine q_getI eX11_stroke_47 fl_11_320 tR_0 rfl ?_
  refine q_bipush eX11_stroke_50 kbipush_120 ?_
  refine q_icmp_eq (tgt := 63) eX11_stroke_52 (by decide) (fun _ => ?_) (fun _ => ?_)
  · refine q_iconst eX11_stroke_63 kiconst_m1 ?_
    refine q_goto (tgt := 72) eX11_stroke_64 (by decide) ?_
    exact q_ireturn eX11_stroke_72 rfl
  · refine q_aload_n 0 eX11_stroke_55 rfl rfl ?_
    refine q_iload_n 1 eX11_stroke_56 rfl rfl ?_
    refine q_callVI (As := [.int a1]) (st := []) eX11_stroke_57 cv_11_313 (kX11_isStroke X l a1 w6) tR_0 rfl (by decide) rfl rfl (Nat.le_of_ble_eq_true rfl) (by decide) (fun r7 w8 => ?_)
    refine q_if_ne (tgt := 67) eX11_stroke_60 (by decide) (fun _ => ?_) (fun _ => ?_)
    · refine q_iconst eX11_stroke_63 kiconst_m1 ?_
      refine q_goto (tgt := 72) eX11_stroke_64 (by decide) ?_
      exact q_ireturn eX11_stroke_72 rfl
    · refine q_aload_n 0 eX11_stroke_67 rfl rfl ?_
      refine q_iload_n 1 eX11_stroke_68 rfl rfl ?_
      refine q_callVI (As := [.int a1]) (st := []) eX11_stroke_69 cv_11_323 (kX11_logs X l a1 w8) tR_0 rfl (by decide) rfl rfl (Nat.le_of_ble_eq_true rfl) (by decide) (fun r9 w10 => ?_)
      exact q_ireturn eX11_stroke_72 rfl
def fX11_drop (a1 : Int32) (a2 : Int32) (a3 : Int32) (a4 : Int32) (w : q_W) : Option (Int32 × q_W) :=
  q_b (fX11_stroke 0 a1 a2 a3 a4 0 0 w) fun r1 w2 =>
  some (r1, w2)
set_option maxHeartbeats 4000000 in
set_option maxRecDepth 100000 in
theorem kX11_drop (X : q_X) (l : Launch) (a1 : Int32) (a2 : Int32) (a3 : Int32) (a4 : Int32) (w : q_W) : q_Ct X S_R l mX11_drop 3 q_tI [.ref 0, .int a1, .int a2, .int a3, .int a4] w (fX11_drop a1 a2 a3 a4 w) := by
  refine q_intro (lv := [(0, .ref 0), (1, .int a1), (2, .int a2), (3, .int a3), (4, .int a4)]) (by decide +kernel) rfl (Nat.le_of_ble_eq_true rfl) rfl ?_
  refine q_aload_n 0 eX11_drop_0 rfl rfl ?_
  refine q_iconst eX11_drop_1 kiconst_0 ?_
  refine q_iload_n 1 eX11_drop_2 rfl rfl ?_
  refine q_iload_n 2 eX11_drop_3 rfl rfl ?_
  refine q_iload_n 3 eX11_drop_4 rfl rfl ?_
  refine q_iload 4 eX11_drop_5 rfl ?_
  refine q_iconst eX11_drop_7 kiconst_0 ?_
  refine q_iconst eX11_drop_8 kiconst_0 ?_
  refine q_callVI (As := [.int 0, .int a1, .int a2, .int a3, .int a4, .int 0, .int 0]) (st := []) eX11_drop_9 cv_11_326 (kX11_stroke X l 0 a1 a2 a3 a4 0 0 w) tR_0 rfl (by decide) rfl rfl (Nat.le_of_ble_eq_true rfl) (by decide) (fun r1 w2 => ?_)
  exact q_ireturn eX11_drop_12 rfl
def fX11_line (a1 : Int32) (a2 : Int32) (a3 : Int32) (a4 : Int32) (w : q_W) : Option (Int32 × q_W) :=
  q_b (fX11_stroke 1 a1 a2 a3 a4 0 0 w) fun r1 w2 =>
  some (r1, w2)
set_option maxHeartbeats 4000000 in
set_option maxRecDepth 100000 in
theorem kX11_line (X : q_X) (l : Launch) (a1 : Int32) (a2 : Int32) (a3 : Int32) (a4 : Int32) (w : q_W) : q_Ct X S_R l mX11_line 3 q_tI [.ref 0, .int a1, .int a2, .int a3, .int a4] w (fX11_line a1 a2 a3 a4 w) := by
  refine q_intro (lv := [(0, .ref 0), (1, .int a1), (2, .int a2), (3, .int a3), (4, .int a4)]) (by decide +kernel) rfl (Nat.le_of_ble_eq_true rfl) rfl ?_
  refine q_aload_n 0 eX11_line_0 rfl rfl ?_
  refine q_iconst eX11_line_1 kiconst_1 ?_
  refine q_iload_n 1 eX11_line_2 rfl rfl ?_
  refine q_iload_n 2 eX11_line_3 rfl rfl ?_
  refine q_iload_n 3 eX11_line_4 rfl rfl ?_
  refine q_iload 4 eX11_line_5 rfl ?_
  refine q_iconst eX11_line_7 kiconst_0 ?_
  refine q_iconst eX11_line_8 kiconst_0 ?_
  refine q_callVI (As := [.int 1, .int a1, .int a2, .int a3, .int a4, .int 0, .int 0]) (st := []) eX11_line_9 cv_11_326 (kX11_stroke X l 1 a1 a2 a3 a4 0 0 w) tR_0 rfl (by decide) rfl rfl (Nat.le_of_ble_eq_true rfl) (by decide) (fun r1 w2 => ?_)
  exact q_ireturn eX11_line_12 rfl
def fX11_comb (a1 : Int32) (a2 : Int32) (a3 : Int32) (a4 : Int32) (a5 : Int32) (a6 : Int32) (w : q_W) : Option (Int32 × q_W) :=
  q_b (fX11_stroke 2 a1 a2 a3 a4 a5 a6 w) fun r1 w2 =>
  some (r1, w2)
set_option maxHeartbeats 4000000 in
set_option maxRecDepth 100000 in
theorem kX11_comb (X : q_X) (l : Launch) (a1 : Int32) (a2 : Int32) (a3 : Int32) (a4 : Int32) (a5 : Int32) (a6 : Int32) (w : q_W) : q_Ct X S_R l mX11_comb 3 q_tI [.ref 0, .int a1, .int a2, .int a3, .int a4, .int a5, .int a6] w (fX11_comb a1 a2 a3 a4 a5 a6 w) := by
  refine q_intro (lv := [(0, .ref 0), (1, .int a1), (2, .int a2), (3, .int a3), (4, .int a4), (5, .int a5), (6, .int a6)]) (by decide +kernel) rfl (Nat.le_of_ble_eq_true rfl) rfl ?_
  refine q_aload_n 0 eX11_comb_0 rfl rfl ?_
  refine q_iconst eX11_comb_1 kiconst_2 ?_
  refine q_iload_n 1 eX11_comb_2 rfl rfl ?_
  refine q_iload_n 2 eX11_comb_3 rfl rfl ?_
  refine q_iload_n 3 eX11_comb_4 rfl rfl ?_
  refine q_iload 4 eX11_comb_5 rfl ?_
  refine q_iload 5 eX11_comb_7 rfl ?_
  refine q_iload 6 eX11_comb_9 rfl ?_
  refine q_callVI (As := [.int 2, .int a1, .int a2, .int a3, .int a4, .int a5, .int a6]) (st := []) eX11_comb_11 cv_11_326 (kX11_stroke X l 2 a1 a2 a3 a4 a5 a6 w) tR_0 rfl (by decide) rfl rfl (Nat.le_of_ble_eq_true rfl) (by decide) (fun r1 w2 => ?_)
  exact q_ireturn eX11_comb_14 rfl
def fX11_wave (a1 : Int32) (a2 : Int32) (a3 : Int32) (w : q_W) : Option (Int32 × q_W) :=
  q_b (fX11_stroke 3 a1 a2 a3 0 0 0 w) fun r1 w2 =>
  some (r1, w2)
set_option maxHeartbeats 4000000 in
set_option maxRecDepth 100000 in
theorem kX11_wave (X : q_X) (l : Launch) (a1 : Int32) (a2 : Int32) (a3 : Int32) (w : q_W) : q_Ct X S_R l mX11_wave 3 q_tI [.ref 0, .int a1, .int a2, .int a3] w (fX11_wave a1 a2 a3 w) := by
  refine q_intro (lv := [(0, .ref 0), (1, .int a1), (2, .int a2), (3, .int a3)]) (by decide +kernel) rfl (Nat.le_of_ble_eq_true rfl) rfl ?_
  refine q_aload_n 0 eX11_wave_0 rfl rfl ?_
  refine q_iconst eX11_wave_1 kiconst_3 ?_
  refine q_iload_n 1 eX11_wave_2 rfl rfl ?_
  refine q_iload_n 2 eX11_wave_3 rfl rfl ?_
  refine q_iload_n 3 eX11_wave_4 rfl rfl ?_
  refine q_iconst eX11_wave_5 kiconst_0 ?_
  refine q_iconst eX11_wave_6 kiconst_0 ?_
  refine q_iconst eX11_wave_7 kiconst_0 ?_
  refine q_callVI (As := [.int 3, .int a1, .int a2, .int a3, .int 0, .int 0, .int 0]) (st := []) eX11_wave_8 cv_11_326 (kX11_stroke X l 3 a1 a2 a3 0 0 0 w) tR_0 rfl (by decide) rfl rfl (Nat.le_of_ble_eq_true rfl) (by decide) (fun r1 w2 => ?_)
  exact q_ireturn eX11_wave_11 rfl
def fX11_lay (a1 : Int32) (w : q_W) : Option (Int32 × q_W) :=
  if (w.1 0 50) = 120 then
    some ((-1), w)
  else
    q_b (fX11_in a1 0 63 w) fun r1 w2 =>
    if r1 = 0 then
      some ((-1), w2)
    else
      if q_inb 0 6 then
      q_lt (q_sI w2 26 (q_ix 0) a1) fun w3 =>
      q_b (fX11_logs 4 w3) fun r4 w5 =>
      some (r4, w5)
      else none
set_option maxHeartbeats 4000000 in
set_option maxRecDepth 100000 in
theorem kX11_lay (X : q_X) (l : Launch) (a1 : Int32) (w : q_W) : q_Ct X S_R l mX11_lay 1 q_tI [.ref 0, .int a1] w (fX11_lay a1 w) := by
  refine q_intro (lv := [(0, .ref 0), (1, .int a1)]) (by decide +kernel) rfl (Nat.le_of_ble_eq_true rfl) rfl ?_
  refine q_aload_n 0 eX11_lay_0 rfl rfl ?_
  refine q_getI eX11_lay_1 fl_11_320 tR_0 rfl ?_
  refine q_bipush eX11_lay_4 kbipush_120 ?_
  refine q_icmp_eq (tgt := 19) eX11_lay_6 (by decide) (fun _ => ?_) (fun _ => ?_)
  · refine q_iconst eX11_lay_19 kiconst_m1 ?_
    exact q_ireturn eX11_lay_20 rfl
  · refine q_iload_n 1 eX11_lay_9 rfl rfl ?_
    refine q_iconst eX11_lay_10 kiconst_0 ?_
    refine q_bipush eX11_lay_11 kbipush_63 ?_
    refine q_callSI (As := [.int a1, .int 0, .int 63]) (st := []) eX11_lay_13 cv_11_316 (kX11_in X l a1 0 63 w) rfl rfl (Nat.le_of_ble_eq_true rfl) (by decide) (fun r1 w2 => ?_)
    refine q_if_ne (tgt := 21) eX11_lay_16 (by decide) (fun _ => ?_) (fun _ => ?_)
    · refine q_iconst eX11_lay_19 kiconst_m1 ?_
      exact q_ireturn eX11_lay_20 rfl
    · refine q_aload_n 0 eX11_lay_21 rfl rfl ?_
      refine q_getG (v := 26) eX11_lay_22 fl_11_94 tR_0 rfl gR_0_49 ?_
      refine q_iconst eX11_lay_25 kiconst_0 ?_
      refine q_iload_n 1 eX11_lay_26 rfl rfl ?_
      refine q_iast eX11_lay_27 tR_26 nR_26 ?_
      refine q_ltW (fun w3 => ?_)
      refine q_aload_n 0 eX11_lay_28 rfl rfl ?_
      refine q_iconst eX11_lay_29 kiconst_4 ?_
      refine q_callVI (As := [.int 4]) (st := []) eX11_lay_30 cv_11_323 (kX11_logs X l 4 w3) tR_0 rfl (by decide) rfl rfl (Nat.le_of_ble_eq_true rfl) (by decide) (fun r4 w5 => ?_)
      exact q_ireturn eX11_lay_33 rfl
def fX11_strike (a1 : Int32) (w : q_W) : Option (Int32 × q_W) :=
  if (w.1 0 50) = 120 then
    some ((-1), w)
  else
    if a1 < 0 then
      some ((-1), w)
    else
      if (w.1 0 50) ≤ a1 then
        some ((-1), w)
      else
        if q_inb a1 120 then
        if (w.1 27 (q_ix a1)) = 5 then
          some ((-1), w)
        else
          if q_inb 0 6 then
          q_lt (q_sI w 26 (q_ix 0) a1) fun w1 =>
          q_b (fX11_logs 5 w1) fun r2 w3 =>
          some (r2, w3)
          else none
        else none
set_option maxHeartbeats 4000000 in
set_option maxRecDepth 100000 in
theorem kX11_strike (X : q_X) (l : Launch) (a1 : Int32) (w : q_W) : q_Ct X S_R l mX11_strike 1 q_tI [.ref 0, .int a1] w (fX11_strike a1 w) := by
  refine q_intro (lv := [(0, .ref 0), (1, .int a1)]) (by decide +kernel) rfl (Nat.le_of_ble_eq_true rfl) rfl ?_
  refine q_aload_n 0 eX11_strike_0 rfl rfl ?_
  refine q_getI eX11_strike_1 fl_11_320 tR_0 rfl ?_
  refine q_bipush eX11_strike_4 kbipush_120 ?_
  refine q_icmp_eq (tgt := 31) eX11_strike_6 (by decide) (fun _ => ?_) (fun _ => ?_)
  · refine q_iconst eX11_strike_31 kiconst_m1 ?_
    exact q_ireturn eX11_strike_32 rfl
  · refine q_iload_n 1 eX11_strike_9 rfl rfl ?_
    refine q_if_lt (tgt := 31) eX11_strike_10 (by decide) (fun _ => ?_) (fun _ => ?_)
    · refine q_iconst eX11_strike_31 kiconst_m1 ?_
      exact q_ireturn eX11_strike_32 rfl
    · refine q_iload_n 1 eX11_strike_13 rfl rfl ?_
      refine q_aload_n 0 eX11_strike_14 rfl rfl ?_
      refine q_getI eX11_strike_15 fl_11_320 tR_0 rfl ?_
      refine q_icmp_ge (tgt := 31) eX11_strike_18 (by decide) (fun _ => ?_) (fun _ => ?_)
      · refine q_iconst eX11_strike_31 kiconst_m1 ?_
        exact q_ireturn eX11_strike_32 rfl
      · refine q_aload_n 0 eX11_strike_21 rfl rfl ?_
        refine q_getG (v := 27) eX11_strike_22 fl_11_97 tR_0 rfl gR_0_51 ?_
        refine q_iload_n 1 eX11_strike_25 rfl rfl ?_
        refine q_iald eX11_strike_26 tR_27 nR_27 ?_
        refine q_iconst eX11_strike_27 kiconst_5 ?_
        refine q_icmp_ne (tgt := 33) eX11_strike_28 (by decide) (fun _ => ?_) (fun _ => ?_)
        · refine q_iconst eX11_strike_31 kiconst_m1 ?_
          exact q_ireturn eX11_strike_32 rfl
        · refine q_aload_n 0 eX11_strike_33 rfl rfl ?_
          refine q_getG (v := 26) eX11_strike_34 fl_11_94 tR_0 rfl gR_0_49 ?_
          refine q_iconst eX11_strike_37 kiconst_0 ?_
          refine q_iload_n 1 eX11_strike_38 rfl rfl ?_
          refine q_iast eX11_strike_39 tR_26 nR_26 ?_
          refine q_ltW (fun w1 => ?_)
          refine q_aload_n 0 eX11_strike_40 rfl rfl ?_
          refine q_iconst eX11_strike_41 kiconst_5 ?_
          refine q_callVI (As := [.int 5]) (st := []) eX11_strike_42 cv_11_323 (kX11_logs X l 5 w1) tR_0 rfl (by decide) rfl rfl (Nat.le_of_ble_eq_true rfl) (by decide) (fun r2 w3 => ?_)
          exact q_ireturn eX11_strike_45 rfl
def fX11_isPattern (a1 : Int32) (w : q_W) : Option (Int32 × q_W) :=
  if a1 < 0 then
    some (0, w)
  else
    q_lt (w.1 0 18) fun y1 =>
    if q_inb y1 2 then
    if (w.1 8 (q_ix y1)) ≤ a1 then
      some (0, w)
    else
      some (1, w)
    else none
set_option maxHeartbeats 4000000 in
set_option maxRecDepth 100000 in
theorem kX11_isPattern (X : q_X) (l : Launch) (a1 : Int32) (w : q_W) : q_Ct X S_R l mX11_isPattern 0 q_tI [.ref 0, .int a1] w (fX11_isPattern a1 w) := by
  refine q_intro (lv := [(0, .ref 0), (1, .int a1)]) (by decide +kernel) rfl (Nat.le_of_ble_eq_true rfl) rfl ?_
  refine q_iload_n 1 eX11_isPattern_0 rfl rfl ?_
  refine q_if_lt (tgt := 21) eX11_isPattern_1 (by decide) (fun _ => ?_) (fun _ => ?_)
  · refine q_iconst eX11_isPattern_21 kiconst_0 ?_
    exact q_zret eX11_isPattern_22 rfl rfl
  · refine q_iload_n 1 eX11_isPattern_4 rfl rfl ?_
    refine q_aload_n 0 eX11_isPattern_5 rfl rfl ?_
    refine q_getG (v := 8) eX11_isPattern_6 fl_11_40 tR_0 rfl gR_0_20 ?_
    refine q_aload_n 0 eX11_isPattern_9 rfl rfl ?_
    refine q_getI eX11_isPattern_10 fl_11_206 tR_0 rfl ?_
    refine q_ltI (fun y1 => ?_)
    refine q_iald eX11_isPattern_13 tR_8 nR_8 ?_
    refine q_icmp_ge (tgt := 21) eX11_isPattern_14 (by decide) (fun _ => ?_) (fun _ => ?_)
    · refine q_iconst eX11_isPattern_21 kiconst_0 ?_
      exact q_zret eX11_isPattern_22 rfl rfl
    · refine q_iconst eX11_isPattern_17 kiconst_1 ?_
      refine q_goto (tgt := 22) eX11_isPattern_18 (by decide) ?_
      exact q_zret eX11_isPattern_22 rfl rfl
def fX11_run_h67 (rec55 : Int32 → q_W → Option (Int32 × q_W)) (rec67 : Int32 → Int32 → q_W → Option (Int32 × q_W)) (x5 : Int32) (x6 : Int32) (w : q_W) : Option (Int32 × q_W) :=
  if 6 ≤ x6 then
    if q_inb x5 120 then
    q_b (fX11_logs (w.1 21 (q_ix x5)) w) fun r1 w2 =>
    if 0 ≤ r1 then
      q_lt (x5 + 1) fun y3 =>
      rec55 y3 w2
    else
      some ((-1), w2)
    else none
  else
    q_lt ((6 * x5) + x6) fun y4 =>
    if q_inb y4 720 then
    if q_inb x6 6 then
    q_lt (q_sI w 26 (q_ix x6) (w.1 22 (q_ix y4))) fun w5 =>
    q_lt (x6 + 1) fun y6 =>
    rec67 x5 y6 w5
    else none
    else none
def fX11_run_l67 (rec55 : Int32 → q_W → Option (Int32 × q_W)) : Int32 → Int32 → q_W → Option (Int32 × q_W) := q_it q_N (fX11_run_h67 rec55) (fun _ _ _ => none)
set_option maxHeartbeats 4000000 in
set_option maxRecDepth 100000 in
theorem jX11_run_h67 (X : q_X) (l : Launch) (rec55 : Int32 → q_W → Option (Int32 × q_W)) (hr55 : ∀ x5 w, q_J X S_R l mX11_run 4 q_tI 55 [(0, .ref 0), (5, .int x5)] [] w (rec55 x5 w)) (rec67 : Int32 → Int32 → q_W → Option (Int32 × q_W)) (hr67 : ∀ x5 x6 w, q_J X S_R l mX11_run 4 q_tI 67 [(0, .ref 0), (5, .int x5), (6, .int x6)] [] w (rec67 x5 x6 w)) : ∀ x5 x6 w, q_J X S_R l mX11_run 4 q_tI 67 [(0, .ref 0), (5, .int x5), (6, .int x6)] [] w (fX11_run_h67 rec55 rec67 x5 x6 w) := by
  intro x5 x6 w
  refine q_iload 2 eX11_run_67 rfl ?_
  refine q_bipush eX11_run_69 kbipush_6 ?_
  refine q_icmp_ge (tgt := 100) eX11_run_71 (by decide) (fun _ => ?_) (fun _ => ?_)
  · refine q_aload_n 0 eX11_run_100 rfl rfl ?_
    refine q_aload_n 0 eX11_run_101 rfl rfl ?_
    refine q_getG (v := 21) eX11_run_102 fl_11_79 tR_0 rfl gR_0_42 ?_
    refine q_iload 1 eX11_run_105 rfl ?_
    refine q_iald eX11_run_107 tR_21 nR_21 ?_
    refine q_callVI (As := [.int (w.1 21 (q_ix x5))]) (st := []) eX11_run_108 cv_11_323 (kX11_logs X l (w.1 21 (q_ix x5)) w) tR_0 rfl (by decide) rfl rfl (Nat.le_of_ble_eq_true rfl) (by decide) (fun r1 w2 => ?_)
    refine q_istore (lv' := [(6, .int r1), (0, .ref 0), (5, .int x5)]) eX11_run_111 (by decide) rfl ?_
    refine q_iload 0 eX11_run_113 rfl ?_
    refine q_if_ge (tgt := 120) eX11_run_115 (by decide) (fun _ => ?_) (fun _ => ?_)
    · refine q_ltE (fun y3 hy3 => ?_)
      refine q_iinc (v := y3) (lv' := [(5, .int y3), (6, .int r1), (0, .ref 0)]) 2 eX11_run_120 rfl hy3 (by decide) rfl ?_
      refine q_goto (tgt := 55) eX11_run_123 (by decide) ?_
      exact q_sub [2, 0] rfl (hr55 y3 w2)
    · refine q_iconst eX11_run_118 kiconst_m1 ?_
      exact q_ireturn eX11_run_119 rfl
  · refine q_aload_n 0 eX11_run_74 rfl rfl ?_
    refine q_getG (v := 26) eX11_run_75 fl_11_94 tR_0 rfl gR_0_49 ?_
    refine q_iload 2 eX11_run_78 rfl ?_
    refine q_aload_n 0 eX11_run_80 rfl rfl ?_
    refine q_getG (v := 22) eX11_run_81 fl_11_82 tR_0 rfl gR_0_43 ?_
    refine q_bipush eX11_run_84 kbipush_6 ?_
    refine q_iload 1 eX11_run_86 rfl ?_
    refine q_imul eX11_run_88 ?_
    refine q_iload 2 eX11_run_89 rfl ?_
    refine q_iadd eX11_run_91 ?_
    refine q_ltI (fun y4 => ?_)
    refine q_iald eX11_run_92 tR_22 nR_22 ?_
    refine q_iast eX11_run_93 tR_26 nR_26 ?_
    refine q_ltW (fun w5 => ?_)
    refine q_ltE (fun y6 hy6 => ?_)
    refine q_iinc (v := y6) (lv' := [(6, .int y6), (0, .ref 0), (5, .int x5)]) 2 eX11_run_94 rfl hy6 (by decide) rfl ?_
    refine q_goto (tgt := 67) eX11_run_97 (by decide) ?_
    exact q_sub [1, 2, 0] rfl (hr67 x5 y6 w5)
set_option maxHeartbeats 4000000 in
set_option maxRecDepth 100000 in
theorem jX11_run_l67 (X : q_X) (l : Launch) (rec55 : Int32 → q_W → Option (Int32 × q_W)) (hr55 : ∀ x5 w, q_J X S_R l mX11_run 4 q_tI 55 [(0, .ref 0), (5, .int x5)] [] w (rec55 x5 w)) : ∀ x5 x6 w, q_J X S_R l mX11_run 4 q_tI 67 [(0, .ref 0), (5, .int x5), (6, .int x6)] [] w (fX11_run_l67 rec55 x5 x6 w) := by
  exact q_it_ind (fun rc => ∀ x5 x6 w, q_J X S_R l mX11_run 4 q_tI 67 [(0, .ref 0), (5, .int x5), (6, .int x6)] [] w (rc x5 x6 w)) _ _ (fun _ _ _ => q_none) (fun rc hrc => jX11_run_h67 X l rec55 hr55 rc hrc) q_N
def fX11_run_h55 (rec55 : Int32 → q_W → Option (Int32 × q_W)) (x5 : Int32) (w : q_W) : Option (Int32 × q_W) :=
  if (w.1 0 40) ≤ x5 then
    some ((w.1 0 40), w)
  else
    fX11_run_l67 rec55 x5 0 w
def fX11_run_l55 : Int32 → q_W → Option (Int32 × q_W) := q_it q_N (fX11_run_h55) (fun _ _ => none)
set_option maxHeartbeats 4000000 in
set_option maxRecDepth 100000 in
theorem jX11_run_h55 (X : q_X) (l : Launch) (rec55 : Int32 → q_W → Option (Int32 × q_W)) (hr55 : ∀ x5 w, q_J X S_R l mX11_run 4 q_tI 55 [(0, .ref 0), (5, .int x5)] [] w (rec55 x5 w)) : ∀ x5 w, q_J X S_R l mX11_run 4 q_tI 55 [(0, .ref 0), (5, .int x5)] [] w (fX11_run_h55 rec55 x5 w) := by
  intro x5 w
  refine q_iload 1 eX11_run_55 rfl ?_
  refine q_aload_n 0 eX11_run_57 rfl rfl ?_
  refine q_getI eX11_run_58 fl_11_293 tR_0 rfl ?_
  refine q_icmp_ge (tgt := 126) eX11_run_61 (by decide) (fun _ => ?_) (fun _ => ?_)
  · refine q_aload_n 0 eX11_run_126 rfl rfl ?_
    refine q_getI eX11_run_127 fl_11_293 tR_0 rfl ?_
    exact q_ireturn eX11_run_130 rfl
  · refine q_iconst eX11_run_64 kiconst_0 ?_
    refine q_istore (lv' := [(6, .int 0), (0, .ref 0), (5, .int x5)]) eX11_run_65 (by decide) rfl ?_
    exact q_sub [1, 2, 0] rfl (jX11_run_l67 X l rec55 hr55 x5 0 w)
set_option maxHeartbeats 4000000 in
set_option maxRecDepth 100000 in
theorem jX11_run_l55 (X : q_X) (l : Launch) : ∀ x5 w, q_J X S_R l mX11_run 4 q_tI 55 [(0, .ref 0), (5, .int x5)] [] w (fX11_run_l55 x5 w) := by
  exact q_it_ind (fun rc => ∀ x5 w, q_J X S_R l mX11_run 4 q_tI 55 [(0, .ref 0), (5, .int x5)] [] w (rc x5 w)) _ _ (fun _ _ => q_none) (fun rc hrc => jX11_run_h55 X l rc hrc) q_N
def fX11_run (a1 : Int32) (a2 : Int32) (a3 : Int32) (w : q_W) : Option (Int32 × q_W) :=
  q_b (fX11_isPattern a1 w) fun r1 w2 =>
  if r1 = 0 then
    some ((-1), w2)
  else
    q_b (fX11_begins (120 - (w2.1 0 50)) w2) fun r3 w4 =>
    q_b (fX11_does a1 a2 a3 w4) fun r5 w6 =>
    if r5 ≤ 0 then
      fX11_run_l55 0 w6
    else
      q_lt (q_sI w6 0 53 r5) fun w7 =>
      q_lt (q_sI w7 0 54 (w7.1 0 44)) fun w8 =>
      some ((-2), w8)
set_option maxHeartbeats 4000000 in
set_option maxRecDepth 100000 in
theorem kX11_run (X : q_X) (l : Launch) (a1 : Int32) (a2 : Int32) (a3 : Int32) (w : q_W) : q_Ct X S_R l mX11_run 4 q_tI [.ref 0, .int a1, .int a2, .int a3] w (fX11_run a1 a2 a3 w) := by
  refine q_intro (lv := [(0, .ref 0), (1, .int a1), (2, .int a2), (3, .int a3)]) (by decide +kernel) rfl (Nat.le_of_ble_eq_true rfl) rfl ?_
  refine q_aload_n 0 eX11_run_0 rfl rfl ?_
  refine q_iload_n 1 eX11_run_1 rfl rfl ?_
  refine q_callVI (As := [.int a1]) (st := []) eX11_run_2 cv_11_330 (kX11_isPattern X l a1 w) tR_0 rfl (by decide) rfl rfl (Nat.le_of_ble_eq_true rfl) (by decide) (fun r1 w2 => ?_)
  refine q_if_ne (tgt := 10) eX11_run_5 (by decide) (fun _ => ?_) (fun _ => ?_)
  · refine q_iconst eX11_run_8 kiconst_m1 ?_
    exact q_ireturn eX11_run_9 rfl
  · refine q_aload_n 0 eX11_run_10 rfl rfl ?_
    refine q_bipush eX11_run_11 kbipush_120 ?_
    refine q_aload_n 0 eX11_run_13 rfl rfl ?_
    refine q_getI eX11_run_14 fl_11_320 tR_0 rfl ?_
    refine q_isub eX11_run_17 ?_
    refine q_callVV (As := [.int (120 - (w2.1 0 50))]) (st := []) eX11_run_18 cv_11_333 (kX11_begins X l (120 - (w2.1 0 50)) w2) tR_0 rfl (by decide) rfl rfl (Nat.le_of_ble_eq_true rfl) (by decide) (fun r3 w4 => ?_)
    refine q_aload_n 0 eX11_run_21 rfl rfl ?_
    refine q_iload_n 1 eX11_run_22 rfl rfl ?_
    refine q_iload_n 2 eX11_run_23 rfl rfl ?_
    refine q_iload_n 3 eX11_run_24 rfl rfl ?_
    refine q_callVI (As := [.int a1, .int a2, .int a3]) (st := []) eX11_run_25 cv_11_336 (kX11_does X l a1 a2 a3 w4) tR_0 rfl (by decide) rfl rfl (Nat.le_of_ble_eq_true rfl) (by decide) (fun r5 w6 => ?_)
    refine q_istore (lv' := [(4, .int r5), (0, .ref 0), (1, .int a1), (2, .int a2), (3, .int a3)]) eX11_run_28 (by decide) rfl ?_
    refine q_iload 0 eX11_run_30 rfl ?_
    refine q_if_le (tgt := 52) eX11_run_32 (by decide) (fun _ => ?_) (fun _ => ?_)
    · refine q_iconst eX11_run_52 kiconst_0 ?_
      refine q_istore (lv' := [(5, .int 0), (4, .int r5), (0, .ref 0), (1, .int a1), (2, .int a2), (3, .int a3)]) eX11_run_53 (by decide) rfl ?_
      exact q_sub [2, 0] rfl (jX11_run_l55 X l 0 w6)
    · refine q_aload_n 1 eX11_run_35 rfl rfl ?_
      refine q_iload 0 eX11_run_36 rfl ?_
      refine q_putI eX11_run_38 fp_11_339 tR_0 rfl ⟨rfl, rfl⟩ ?_
      refine q_ltW (fun w7 => ?_)
      refine q_aload_n 1 eX11_run_41 rfl rfl ?_
      refine q_aload_n 1 eX11_run_42 rfl rfl ?_
      refine q_getI eX11_run_43 fl_11_302 tR_0 rfl ?_
      refine q_putI eX11_run_46 fp_11_103 tR_0 rfl ⟨rfl, rfl⟩ ?_
      refine q_ltW (fun w8 => ?_)
      refine q_bipush eX11_run_49 kbipush_m2 ?_
      exact q_ireturn eX11_run_51 rfl
