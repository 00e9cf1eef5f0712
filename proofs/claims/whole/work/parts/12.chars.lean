/-! charAt of the words' text -/
theorem q_getsF {X : q_X} {S : q_S} {l : Launch} {M : q_M} {d : Nat} {ρ : Type} {tv : ρ → Option Value} {pc nx : Nat} {lv : List (Nat × Value)} {st : List Value} {w : q_W} {o : Option (ρ × q_W)} {idx : Nat} (hd : q_d M pc 3 (.getstatic idx) nx) (hf : Cond.fieldLink M.1 idx "jdk/internal/util/Preconditions" "SIOOBE_FORMATTER" "Ljava/util/function/BiFunction;" ∈ q_tb) (k : ∀ v : Value, v = .null ∨ v = .ref 1120 → q_J X S l M d tv nx lv (v :: st) w o) : q_J X S l M d tv pc lv st w o := by
  obtain ⟨hd, rfl⟩ := hd
  intro r w' ho p e s m args below meth c C H locs ls hP hS hl
  obtain ⟨hx, hb, hml, hown, hts, hr, hlk, hK, hok, hst⟩ := id C
  rcases hst.2.2.2.2 with h | h
  · exact va_gets hx hb h hS hown (hts _ (List.mem_cons_of_mem _ hf)) (fun _ h => h) hd (k .null (Or.inl rfl) r w' ho p e s m args below meth c C H locs ls hP hS hl)
  · exact va_gets hx hb h hS hown (hts _ (List.mem_cons_of_mem _ hf)) (fun _ h => h) hd (k (.ref 1120) (Or.inr rfl) r w' ho p e s m args below meth c C H locs ls hP hS hl)
theorem q_aloadv {X : q_X} {S : q_S} {l : Launch} {M : q_M} {d : Nat} {ρ : Type} {tv : ρ → Option Value} {pc nx : Nat} {lv : List (Nat × Value)} {st : List Value} {w : q_W} {o : Option (ρ × q_W)} (k : q_J X S l M d tv pc lv st w o) : q_J X S l M d tv pc lv st w o := k
theorem q_callSV {X : q_X} {S : q_S} {l : Launch} {M M' : q_M} {d d' : Nat} {ρ : Type} {tv : ρ → Option Value} {pc nx idx n : Nat} {lv : List (Nat × Value)} {As stk st : List Value} {w : q_W} {o1 : Option (Unit × q_W)} {k2 : Unit → q_W → Option (ρ × q_W)} (hd : q_d M pc 3 (.invokestatic idx) nx) (hV : q_CS M.1 idx M' n) (hC : q_Ct X S l M' d' q_tV As w o1) (hn : As.length = n) (hs : stk = As.reverse ++ st) (hw : (st.map fun v => v.category).sum ≤ 8) (hdd : d' + 1 ≤ d) (k : ∀ r w1, q_J X S l M d tv nx lv st w1 (k2 r w1)) : q_J X S l M d tv pc lv stk w (q_b o1 k2) := q_callS hd hV hC hn hs hw hdd k
def q_chk (a b : Int32) (w : q_W) : Option (Int32 × q_W) := if a < 0 then none else if a < b then some (a, w) else none
def q_chkV (a b : Int32) (w : q_W) : Option (Unit × q_W) := q_b (q_chk a b w) fun _ w1 => some ((), w1)
theorem k_prec (X : q_X) (l : Launch) (S : q_S) (a b : Int32) (v : Value) (hv : v = .null ∨ v = .ref 1120) (w : q_W) : q_Ct X S l mJ3_checkIndex_8e157 0 q_tI [.int a, .int b, v] w (q_chk a b w) := by
  have key : ∀ lv : List (Nat × Value), lv = [(0, .int a), (1, .int b), (2, v)] → q_J X S l mJ3_checkIndex_8e157 0 q_tI 0 lv [] w (q_chk a b w) := by
    intro lv hlv
    subst hlv
    refine q_iload_n 0 eJ3_checkIndex_8e157_0 rfl rfl ?_
    refine q_if_lt (tgt := 9) eJ3_checkIndex_8e157_1 (by decide) (fun _ => q_none) (fun _ => ?_)
    refine q_iload_n 0 eJ3_checkIndex_8e157_4 rfl rfl ?_
    refine q_iload_n 1 eJ3_checkIndex_8e157_5 rfl rfl ?_
    refine q_icmp_lt (tgt := 16) eJ3_checkIndex_8e157_6 (by decide) (fun _ => ?_) (fun _ => q_none)
    refine q_iload_n 0 eJ3_checkIndex_8e157_16 rfl rfl ?_
    exact q_ireturn eJ3_checkIndex_8e157_17 rfl
  rcases hv with rfl | rfl
  · exact q_intro (by decide +kernel) rfl (Nat.le_of_ble_eq_true rfl) rfl (key _ rfl)
  · exact q_intro (by decide +kernel) rfl (Nat.le_of_ble_eq_true rfl) rfl (key _ rfl)
theorem k_sck (X : q_X) (l : Launch) (S : q_S) (a b : Int32) (w : q_W) : q_Ct X S l mJ0_checkIndex_df160 1 q_tV [.int a, .int b] w (q_chkV a b w) := by
  refine q_intro (lv := [(0, .int a), (1, .int b)]) (by decide +kernel) rfl (Nat.le_of_ble_eq_true rfl) rfl ?_
  refine q_iload_n 0 eJ0_checkIndex_df160_0 rfl rfl ?_
  refine q_iload_n 1 eJ0_checkIndex_df160_1 rfl rfl ?_
  refine q_getsF eJ0_checkIndex_df160_2 sf_J0 (fun v hv => ?_)
  refine q_callSI (As := [.int a, .int b, v]) (st := []) eJ0_checkIndex_df160_5 cv_J0_1059 (k_prec X l S a b v hv w) rfl rfl (Nat.le_of_ble_eq_true rfl) (by decide) (fun r1 w2 => ?_)
  refine q_pop eJ0_checkIndex_df160_8 rfl ?_
  exact q_return eJ0_checkIndex_df160_9 rfl
def q_ch (i : Int32) : Int32 := (UInt32.toInt32 (Int32.toUInt32 (((q_sby 0).getD (q_ix i) 0) &&& 255) % 65536))
def q_lchar (i : Int32) (w : q_W) : Option (Int32 × q_W) := q_b (q_chkV i 61 w) fun _ w1 => if q_inb i 61 then some (q_ch i, w1) else none
theorem k_lchar (X : q_X) (l : Launch) (S : q_S) (i : Int32) (w : q_W) : q_Ct X S l mJ1_charAt_3b067 2 q_tI [.ref 1110, .int i] w (q_lchar i w) := by
  refine q_intro (lv := [(0, .ref 1110), (1, .int i)]) (by decide +kernel) rfl (Nat.le_of_ble_eq_true rfl) rfl ?_
  refine q_iload_n 1 eJ1_charAt_3b067_0 rfl rfl ?_
  refine q_aload_n 0 eJ1_charAt_3b067_1 rfl rfl ?_
  refine q_sblen 0 (v := 61) eJ1_charAt_3b067_2 (by decide) (by decide) ?_
  refine q_callSV (As := [.int i, .int 61]) (st := []) eJ1_charAt_3b067_3 cv_J1_9 (k_sck X l S i 61 w) rfl rfl (Nat.le_of_ble_eq_true rfl) (by decide) (fun r1 w2 => ?_)
  refine q_aload_n 0 eJ1_charAt_3b067_6 rfl rfl ?_
  refine q_iload_n 1 eJ1_charAt_3b067_7 rfl rfl ?_
  refine q_sbald 0 eJ1_charAt_3b067_8 (by decide) (n := 61) rfl ?_
  refine q_sipush (v := 255) eJ1_charAt_3b067_9 (by decide) ?_
  refine q_iand eJ1_charAt_3b067_12 ?_
  refine q_i2c eJ1_charAt_3b067_13 ?_
  exact q_nret eJ1_charAt_3b067_14 rfl (pk_nc _)
def q_char (i : Int32) (w : q_W) : Option (Int32 × q_W) := q_b (fJ0_isLatin1_aae02_s0 w) fun r1 w1 => if r1 = 0 then none else q_b (q_lchar i w1) fun r2 w2 => if narrow .char (.int r2) = .int r2 then some (r2, w2) else none
theorem k_char (X : q_X) (l : Launch) (S : q_S) (i : Int32) (w : q_W) : q_Ct X S l mJ0_charAt_5068e 3 q_tI [.ref 1100, .int i] w (q_char i w) := by
  refine q_intro (lv := [(0, .ref 1100), (1, .int i)]) (by decide +kernel) rfl (Nat.le_of_ble_eq_true rfl) rfl ?_
  refine q_aload_n 0 eJ0_charAt_5068e_0 rfl rfl ?_
  refine q_callTI 0 (As := []) (st := []) eJ0_charAt_5068e_1 cv_J0_492 (kJ0_isLatin1_aae02_s0 X l S w) (by decide) rfl rfl rfl (Nat.le_of_ble_eq_true rfl) (by decide) (fun r1 w1 => ?_)
  refine q_if_eq (tgt := 16) eJ0_charAt_5068e_4 (by decide) (fun _ => q_none) (fun _ => ?_)
  refine q_aload_n 0 eJ0_charAt_5068e_7 rfl rfl ?_
  refine q_sval 0 eJ0_charAt_5068e_8 (by decide) sv_J0 ?_
  refine q_iload_n 1 eJ0_charAt_5068e_11 rfl rfl ?_
  refine q_callSI (As := [.ref 1110, .int i]) (st := []) eJ0_charAt_5068e_12 cv_J0_495 (k_lchar X l S i w1) rfl rfl (Nat.le_of_ble_eq_true rfl) (by decide) (fun r2 w2 => ?_)
  exact q_ck (fun h => q_nret eJ0_charAt_5068e_15 rfl h)
