/-! the scanner's constructor: the words, packed one by one -/
theorem len0 (w : q_W) : fJ0_length_8abf5_s0 w = some (61, w) := by
  have h : fJ0_coder_7d493_s0 w = some (0, w) := by
    unfold fJ0_coder_7d493_s0
    rw [if_neg (by decide)]
  unfold fJ0_length_8abf5_s0
  rw [h]
  rfl
theorem ch_ok (i : Nat) (hi : i < 61) (w : q_W) : q_char (nI i) w = some (q_ch (nI i), w) := by
  have h1 : fJ0_isLatin1_aae02_s0 w = some (1, w) := by
    unfold fJ0_isLatin1_aae02_s0
    rw [if_neg (by decide), if_pos (by decide)]
  have h2 : q_inb (nI i) 61 := ⟨nI_pos' (by omega), by rw [nI_clamp (by omega)]; exact hi⟩
  have h3 : q_lchar (nI i) w = some (q_ch (nI i), w) := by
    unfold q_lchar q_chkV q_chk
    rw [if_neg (nI_pos (by omega)), if_pos (show nI i < 61 from nI_lt (b := 61) hi (by omega))]
    show (if q_inb (nI i) 61 then some (q_ch (nI i), w) else none) = _
    rw [if_pos h2]
  unfold q_char
  rw [h1]
  show (if (1 : Int32) = 0 then none else q_b (q_lchar (nI i) w) fun r2 w2 => if narrow .char (.int r2) = .int r2 then some (r2, w2) else none) = _
  rw [if_neg (by decide), h3]
  show (if narrow .char (.int (q_ch (nI i))) = .int (q_ch (nI i)) then some (q_ch (nI i), w) else none) = _
  exact if_pos (pk_nc _)
def q_scn : Nat → (Nat → Int64) × Int32 × Int64
  | 0 => (fun _ => 0, 0, 0)
  | i + 1 => if q_ch (nI i) = 32 then (if 15 ≤ (q_scn i).2.1 then q_scn i else (vp_updL (q_scn i).1 (q_scn i).2.1.toNatClampNeg (q_scn i).2.2, (q_scn i).2.1 + 1, 0)) else ((q_scn i).1, (q_scn i).2.1, ((q_scn i).2.2 <<< ((8 : Int32).toInt64 &&& 63)) ||| (q_ch (nI i)).toInt64)
theorem q_scn_w (i : Nat) : ∃ k, k ≤ 15 ∧ (q_scn i).2.1 = nI k := by
  induction i with
  | zero => exact ⟨0, by omega, rfl⟩
  | succ i ih =>
    obtain ⟨k, hk, e⟩ := ih
    unfold q_scn
    split
    · split
      · exact ⟨k, hk, e⟩
      · rename_i h1 h2
        rw [e] at h2
        have : k < 15 := by
          apply Nat.lt_of_not_le
          intro z
          exact h2 (show (15 : Int32) ≤ nI k from nI_le (a := 15) z (by omega))
        exact ⟨k + 1, by omega, by show (q_scn i).2.1 + 1 = _; rw [e, nI_1]⟩
    · exact ⟨k, hk, e⟩
def ww_sc (X : q_X) (h0 q1 q2 q3 q4 : Nat) (f : Nat → Int64) : va_W := (h0, .inr (7, [.ref q1, .ref q2, .ref q3, .ref q4, .int 0, .long 0])) :: (((([] ++ [(q1, .inl (X.2.1 3, 15, .inr (.inl f)))]) ++ [(q2, .inl (X.2.1 0, 501, .inl (fun _ => 0)))]) ++ [(q3, .inl (X.2.1 0, 501, .inl (fun _ => 0)))]) ++ [(q4, .inl (X.2.1 3, 501, .inr (.inl (fun _ => 0))))])
def q_w00 : q_W := (fun _ _ => 0, fun _ _ => 0, fun _ _ => 0)
def wwX7_init (X : q_X) (h0 q1 q2 q3 q4 : Nat) : va_W := [(h0, .inr (7, [.ref q1, .ref q2, .ref q3, .ref q4, .int 0, .long 0])),
  (q1, .inl (X.2.1 3, 15, .inr (.inl (q_scn 61).1))),
  (q2, .inl (X.2.1 0, 501, .inl (fun _ => 0))),
  (q3, .inl (X.2.1 0, 501, .inl (fun _ => 0))),
  (q4, .inl (X.2.1 3, 501, .inr (.inl (fun _ => 0))))]
set_option maxHeartbeats 4000000 in
set_option maxRecDepth 100000 in
theorem nX7_loop (X : q_X) (l : Launch) (h0 q1 q2 q3 q4 : Nat) : ∀ (m i : Nat), i ≤ 61 → 61 - i < m → q_KJ X l mX7_init 4 4 1518 h0 (fun ws => ∃ q1 q2 q3 q4 : Nat, ws = wwX7_init X h0 q1 q2 q3 q4) 46 [(4, .int (nI i)), (2, .long (q_scn i).2.2), (1, .int (q_scn i).2.1), (0, .ref h0)] [] (ww_sc X h0 q1 q2 q3 q4 (q_scn i).1) 4 1518 := by
  intro m
  induction m with
  | zero => intro i _ h; omega
  | succ m ih =>
    intro i hi hm
    refine q_Kiload 0 eX7_init_46 rfl ?_
    refine q_KldcS 0 eX7_init_48 (by decide) rfl rfl ?_
    refine q_KcallT (As := []) (Bs := []) (st := [.int (nI i)]) (r := 61) 0 q_w00 eX7_init_50 cv_X7_25 (by rw [← len0]; exact kJ0_length_8abf5_s0 X l S_0 q_w00) (by decide) rfl rfl rfl rfl (Nat.le_of_ble_eq_true rfl) (by decide) (Nat.le_refl _) (Nat.le_refl _) ?_
    refine q_Kicmp_ge (tgt := 112) eX7_init_53 (by decide) (fun z => ?_) (fun z => ?_)
    · have hi61 : i = 61 := by
        have : ¬ i < 61 := fun h => nI_ge h (by omega) z
        omega
      subst hi61
      exact q_Kret eX7_init_112 rfl (Nat.le_refl _) (Nat.le_refl _) ⟨q1, q2, q3, q4, rfl⟩
    · have hi61 : i < 61 := by
        apply Nat.lt_of_not_le
        intro h
        exact z (show (61 : Int32) ≤ nI i from nI_le (a := 61) h (by omega))
      refine q_KldcS 0 eX7_init_56 (by decide) rfl rfl ?_
      refine q_Kiload 0 eX7_init_58 rfl ?_
      refine q_KcallT (As := [.int (nI i)]) (Bs := [.int (nI i)]) (st := []) (r := q_ch (nI i)) 0 q_w00 eX7_init_60 cv_X7_31 (by rw [← ch_ok i hi61]; exact k_char X l S_0 (nI i) q_w00) (by decide) rfl rfl rfl rfl (Nat.le_of_ble_eq_true rfl) (by decide) (Nat.le_refl _) (Nat.le_refl _) ?_
      refine q_Kbipush eX7_init_63 kbipush_32 ?_
      have fin : ∀ (f : Nat → Int64) (wd : Int32) (pk : Int64), q_scn (i + 1) = (f, wd, pk) → ∀ lv : List (Nat × Value), lv_pick lv [0, 1, 2, 3] = [(4, .int (nI i)), (2, .long pk), (1, .int wd), (0, .ref h0)] → lv[0]? = some (4, .int (nI i)) → (4, Value.int (nI (i + 1))) :: lv.filter (fun q => !(q.1 == 4) && !(q.1 + 1 == 4 && q.2.category == 2)) = [(4, .int (nI (i + 1))), (2, .long pk), (1, .int wd), (0, .ref h0)] → q_KJ X l mX7_init 4 4 1518 h0 (fun ws => ∃ q1 q2 q3 q4 : Nat, ws = wwX7_init X h0 q1 q2 q3 q4) 106 lv [] (ww_sc X h0 q1 q2 q3 q4 f) 4 1518 := by
        intro f wd pk hq lv h1 h2 h3
        refine q_Kiinc (v := nI (i + 1)) (lv' := [(4, .int (nI (i + 1))), (2, .long pk), (1, .int wd), (0, .ref h0)]) 0 eX7_init_106 h2 (nI_1 i) (by decide) h3 ?_
        refine q_Kgoto (tgt := 46) eX7_init_109 (by decide) ?_
        have h9 := ih (i + 1) (by omega) (by omega)
        rw [hq] at h9
        exact h9
      refine q_Kicmp_eq (tgt := 85) eX7_init_65 (by decide) (fun z2 => ?_) (fun z2 => ?_)
      · refine q_Kiload_n 2 eX7_init_85 rfl rfl ?_
        refine q_Kaload_n 3 eX7_init_86 rfl rfl ?_
        refine q_Kget 0 eX7_init_87 fl_7_9 rfl rfl ?_
        refine q_KalenL (N := 15) (v := 15) 1 eX7_init_90 rfl rfl ?_
        refine q_Kicmp_ge (tgt := 106) eX7_init_91 (by decide) (fun z3 => ?_) (fun z3 => ?_)
        · exact fin (q_scn i).1 (q_scn i).2.1 (q_scn i).2.2 (by rw [q_scn, if_pos z2, if_pos z3]) _ rfl rfl rfl
        · obtain ⟨k, hk, ek⟩ := q_scn_w i
          have hk15 : k < 15 := by
            apply Nat.lt_of_not_le
            intro h
            exact z3 (by rw [ek]; exact (show (15 : Int32) ≤ nI k from nI_le (a := 15) h (by omega)))
          refine q_Kaload_n 3 eX7_init_94 rfl rfl ?_
          refine q_Kget 0 eX7_init_95 fl_7_9 rfl rfl ?_
          refine q_Kiload_n 2 eX7_init_98 rfl rfl ?_
          refine q_Klload_n 1 eX7_init_99 rfl rfl ?_
          refine q_Klast (ws' := ww_sc X h0 q1 q2 q3 q4 (vp_updL (q_scn i).1 (q_scn i).2.1.toNatClampNeg (q_scn i).2.2)) 1 eX7_init_100 rfl (by rw [ek]; exact vp_in_nI hk15 (by omega)) rfl ?_
          refine q_Kiinc (v := (q_scn i).2.1 + 1) (lv' := [(1, .int ((q_scn i).2.1 + 1)), (4, .int (nI i)), (2, .long (q_scn i).2.2), (0, .ref h0)]) 2 eX7_init_101 rfl rfl (by decide) rfl ?_
          refine q_Klconst (v := 0) eX7_init_104 rfl ?_
          refine q_Klstore_n (lv' := [(2, .long 0), (1, .int ((q_scn i).2.1 + 1)), (4, .int (nI i)), (0, .ref h0)]) eX7_init_105 rfl (by decide) rfl ?_
          refine q_Ksub (lv' := [(4, .int (nI i)), (2, .long 0), (1, .int ((q_scn i).2.1 + 1)), (0, .ref h0)]) [2, 0, 1, 3] rfl ?_
          exact fin _ _ _ (by rw [q_scn, if_pos z2, if_neg z3]) _ rfl rfl rfl
      · refine q_Klload_n 1 eX7_init_68 rfl rfl ?_
        refine q_Kbipush eX7_init_69 kbipush_8 ?_
        refine q_Klshl eX7_init_71 ?_
        refine q_KldcS 0 eX7_init_72 (by decide) rfl rfl ?_
        refine q_Kiload 0 eX7_init_74 rfl ?_
        refine q_KcallT (As := [.int (nI i)]) (Bs := [.int (nI i)]) (st := [.long ((q_scn i).2.2 <<< ((8 : Int32).toInt64 &&& 63))]) (r := q_ch (nI i)) 0 q_w00 eX7_init_76 cv_X7_31 (by rw [← ch_ok i hi61]; exact k_char X l S_0 (nI i) q_w00) (by decide) rfl rfl rfl rfl (Nat.le_of_ble_eq_true rfl) (by decide) (Nat.le_refl _) (Nat.le_refl _) ?_
        refine q_Ki2l eX7_init_79 ?_
        refine q_Klor eX7_init_80 ?_
        refine q_Klstore_n (lv' := [(2, .long (((q_scn i).2.2 <<< ((8 : Int32).toInt64 &&& 63)) ||| (q_ch (nI i)).toInt64)), (4, .int (nI i)), (1, .int (q_scn i).2.1), (0, .ref h0)]) eX7_init_81 rfl (by decide) rfl ?_
        refine q_Kgoto (tgt := 106) eX7_init_82 (by decide) ?_
        refine q_Ksub (lv' := [(4, .int (nI i)), (2, .long (((q_scn i).2.2 <<< ((8 : Int32).toInt64 &&& 63)) ||| (q_ch (nI i)).toInt64)), (1, .int (q_scn i).2.1), (0, .ref h0)]) [1, 0, 2, 3] rfl ?_
        exact fin _ _ _ (by rw [q_scn, if_neg z2]) _ rfl rfl rfl
