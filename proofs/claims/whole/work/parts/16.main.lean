theorem tb_147 : Cond.methodLink RX10 1 objectInit ∈ q_tb := ch_1 _ (List.mem_of_getElem? (i := 24) rfl) rfl
theorem ol_10_1 : Cond.methodLink RX10 1 objectInit ∈ q_tb := tb_147
theorem tb_150 : Cond.classLink RX10 7 RX9 ∈ q_tb := ch_1 _ (List.mem_of_getElem? (i := 27) rfl) rfl
theorem tb_151 : Cond.instantiable RX9 2 ∈ q_tb := ch_1 _ (List.mem_of_getElem? (i := 28) rfl) rfl
theorem nw_10_7 : q_NW RX10 7 9 [.null, .int 0] := ⟨RX9, TX9, 2, tyX9, rfl, rfl, uX9, tyX9_ok, tb_150, tb_151, tb_125, fun j hj => by rcases (show j = 0 ∨ j = 1 by omega) with rfl | rfl <;> rfl⟩
theorem tb_153 : Cond.instanceMethod mX9_init.2.1 ∈ q_tb := ch_1 _ (List.mem_of_getElem? (i := 30) rfl) rfl
theorem tb_154 : Cond.code mX9_init.2.1 mX9_init.2.2.1 mX9_init.2.2.2.1 mX9_init.2.2.2.2 ∈ q_tb := ch_1 _ (List.mem_of_getElem? (i := 31) rfl) rfl
theorem ci_10_9 : q_CI RX10 9 mX9_init 0 := ⟨Or.inr (List.mem_of_getElem? (i := 0) rfl), rfl, rfl, tb_153, tb_125, tb_154, ⟨by decide +kernel, by decide +kernel, by decide +kernel⟩, by decide⟩
theorem fpf_10_10 : q_FPF RX10 10 10 0 (.object "MarbleBath$Tape") := ⟨by decide, RX10, TX10, 15, tyX10, rfl, rfl, by decide, uX10, tb_508, tyX10_ok, nmX10, rfl, rfl, by decide +kernel⟩
theorem tb_164 : Cond.classLink RX10 16 RX2 ∈ q_tb := ch_1 _ (List.mem_of_getElem? (i := 41) rfl) rfl
theorem tb_165 : Cond.instantiable RX2 3 ∈ q_tb := ch_1 _ (List.mem_of_getElem? (i := 42) rfl) rfl
theorem nw_10_16 : q_NW RX10 16 2 [.null, .null, .null] := ⟨RX2, TX2, 3, tyX2, rfl, rfl, uX2, tyX2_ok, tb_164, tb_165, tb_126, fun j hj => by rcases (show j = 0 ∨ j = 1 ∨ j = 2 by omega) with rfl | rfl | rfl <;> rfl⟩
theorem tb_166 : Cond.methodLink RX10 18 mX2_init.2.1 ∈ q_tb := ch_1 _ (List.mem_of_getElem? (i := 43) rfl) rfl
theorem tb_167 : Cond.instanceMethod mX2_init.2.1 ∈ q_tb := ch_1 _ (List.mem_of_getElem? (i := 44) rfl) rfl
theorem tb_168 : Cond.code mX2_init.2.1 mX2_init.2.2.1 mX2_init.2.2.2.1 mX2_init.2.2.2.2 ∈ q_tb := ch_1 _ (List.mem_of_getElem? (i := 45) rfl) rfl
theorem ci_10_18 : q_CI RX10 18 mX2_init 0 := ⟨Or.inl tb_166, rfl, rfl, tb_167, tb_126, tb_168, ⟨by decide +kernel, by decide +kernel, by decide +kernel⟩, by decide⟩
theorem fpf_10_19 : q_FPF RX10 19 10 1 (.object "MarbleBath$Log") := ⟨by decide, RX10, TX10, 15, tyX10, rfl, rfl, by decide, uX10, tb_509, tyX10_ok, nmX10, rfl, rfl, by decide +kernel⟩
theorem tb_215 : Cond.classLink RX10 23 RX6 ∈ q_tb := ch_1 _ (List.mem_of_getElem? (i := 92) rfl) rfl
theorem nw_10_23 : q_NW RX10 23 6 [.null, .null, .int 0, .int 0] := ⟨RX6, TX6, 4, tyX6, rfl, rfl, uX6, tyX6_ok, tb_215, tb_171, tb_127, fun j hj => by rcases (show j = 0 ∨ j = 1 ∨ j = 2 ∨ j = 3 by omega) with rfl | rfl | rfl | rfl <;> rfl⟩
theorem ci_10_25 : q_CI RX10 25 mX6_init 0 := ⟨Or.inr (List.mem_of_getElem? (i := 2) rfl), rfl, rfl, tb_173, tb_127, tb_174, ⟨by decide +kernel, by decide +kernel, by decide +kernel⟩, by decide⟩
theorem fpf_10_26 : q_FPF RX10 26 10 2 (.object "MarbleBath$Rows") := ⟨by decide, RX10, TX10, 15, tyX10, rfl, rfl, by decide, uX10, tb_510, tyX10_ok, nmX10, rfl, rfl, by decide +kernel⟩
theorem tb_217 : Cond.classLink RX10 30 RX0 ∈ q_tb := ch_1 _ (List.mem_of_getElem? (i := 94) rfl) rfl
theorem tb_218 : Cond.instantiable RX0 6 ∈ q_tb := ch_1 _ (List.mem_of_getElem? (i := 95) rfl) rfl
theorem nw_10_30 : q_NW RX10 30 0 [.null, .null, .int 0, .int 0, .int 0, .int 0] := ⟨RX0, TX0, 6, tyX0, rfl, rfl, uX0, tyX0_ok, tb_217, tb_218, tb_129, fun j hj => by rcases (show j = 0 ∨ j = 1 ∨ j = 2 ∨ j = 3 ∨ j = 4 ∨ j = 5 by omega) with rfl | rfl | rfl | rfl | rfl | rfl <;> rfl⟩
theorem tb_219 : Cond.methodLink RX10 32 mX0_init.2.1 ∈ q_tb := ch_1 _ (List.mem_of_getElem? (i := 96) rfl) rfl
theorem tb_220 : Cond.instanceMethod mX0_init.2.1 ∈ q_tb := ch_1 _ (List.mem_of_getElem? (i := 97) rfl) rfl
theorem tb_221 : Cond.code mX0_init.2.1 mX0_init.2.2.1 mX0_init.2.2.2.1 mX0_init.2.2.2.2 ∈ q_tb := ch_1 _ (List.mem_of_getElem? (i := 98) rfl) rfl
theorem ci_10_32 : q_CI RX10 32 mX0_init 1 := ⟨Or.inl tb_219, rfl, rfl, tb_220, tb_129, tb_221, ⟨by decide +kernel, by decide +kernel, by decide +kernel⟩, by decide⟩
theorem fpf_10_35 : q_FPF RX10 35 10 3 (.object "MarbleBath$Bath") := ⟨by decide, RX10, TX10, 15, tyX10, rfl, rfl, by decide, uX10, tb_511, tyX10_ok, nmX10, rfl, rfl, by decide +kernel⟩
theorem tb_242 : Cond.classLink RX10 39 RX8 ∈ q_tb := ch_1 _ (List.mem_of_getElem? (i := 119) rfl) rfl
theorem tb_243 : Cond.instantiable RX8 9 ∈ q_tb := ch_1 _ (List.mem_of_getElem? (i := 120) rfl) rfl
theorem nw_10_39 : q_NW RX10 39 8 [.null, .null, .null, .int 0, .int 0, .int 0, .int 0, .int 0, .int 0] := ⟨RX8, TX8, 9, tyX8, rfl, rfl, uX8, tyX8_ok, tb_242, tb_243, tb_130, fun j hj => by rcases (show j = 0 ∨ j = 1 ∨ j = 2 ∨ j = 3 ∨ j = 4 ∨ j = 5 ∨ j = 6 ∨ j = 7 ∨ j = 8 by omega) with rfl | rfl | rfl | rfl | rfl | rfl | rfl | rfl | rfl <;> rfl⟩
theorem tb_245 : Cond.instanceMethod mX8_init.2.1 ∈ q_tb := ch_1 _ (List.mem_of_getElem? (i := 122) rfl) rfl
theorem tb_246 : Cond.code mX8_init.2.1 mX8_init.2.2.1 mX8_init.2.2.2.1 mX8_init.2.2.2.2 ∈ q_tb := ch_1 _ (List.mem_of_getElem? (i := 123) rfl) rfl
theorem ci_10_41 : q_CI RX10 41 mX8_init 0 := ⟨Or.inr (List.mem_of_getElem? (i := 3) rfl), rfl, rfl, tb_245, tb_130, tb_246, ⟨by decide +kernel, by decide +kernel, by decide +kernel⟩, by decide⟩
theorem fpf_10_42 : q_FPF RX10 42 10 4 (.object "MarbleBath$Sheet") := ⟨by decide, RX10, TX10, 15, tyX10, rfl, rfl, by decide, uX10, tb_512, tyX10_ok, nmX10, rfl, rfl, by decide +kernel⟩
theorem fpf_10_46 : q_FPF RX10 46 10 5 (.object "MarbleBath$Sheet") := ⟨by decide, RX10, TX10, 15, tyX10, rfl, rfl, by decide, uX10, tb_513, tyX10_ok, nmX10, rfl, rfl, by decide +kernel⟩
theorem fpf_10_49 : q_FPF RX10 49 10 6 (.array .int) := ⟨by decide, RX10, TX10, 15, tyX10, rfl, rfl, by decide, uX10, tb_514, tyX10_ok, nmX10, rfl, rfl, by decide +kernel⟩
theorem tb_276 : Cond.classLink RX10 53 RX4 ∈ q_tb := ch_1 _ (List.mem_of_getElem? (i := 153) rfl) rfl
theorem tb_277 : Cond.instantiable RX4 5 ∈ q_tb := ch_1 _ (List.mem_of_getElem? (i := 154) rfl) rfl
theorem nw_10_53 : q_NW RX10 53 4 [.null, .null, .null, .int 0, .int 0] := ⟨RX4, TX4, 5, tyX4, rfl, rfl, uX4, tyX4_ok, tb_276, tb_277, tb_131, fun j hj => by rcases (show j = 0 ∨ j = 1 ∨ j = 2 ∨ j = 3 ∨ j = 4 by omega) with rfl | rfl | rfl | rfl | rfl <;> rfl⟩
theorem tb_279 : Cond.instanceMethod mX4_init.2.1 ∈ q_tb := ch_1 _ (List.mem_of_getElem? (i := 156) rfl) rfl
theorem tb_280 : Cond.code mX4_init.2.1 mX4_init.2.2.1 mX4_init.2.2.2.1 mX4_init.2.2.2.2 ∈ q_tb := ch_1 _ (List.mem_of_getElem? (i := 157) rfl) rfl
theorem ci_10_55 : q_CI RX10 55 mX4_init 0 := ⟨Or.inr (List.mem_of_getElem? (i := 4) rfl), rfl, rfl, tb_279, tb_131, tb_280, ⟨by decide +kernel, by decide +kernel, by decide +kernel⟩, by decide⟩
theorem tb_298 : Cond.classLink RX10 63 RX5 ∈ q_tb := ch_1 _ (List.mem_of_getElem? (i := 175) rfl) rfl
theorem tb_299 : Cond.instantiable RX5 12 ∈ q_tb := ch_1 _ (List.mem_of_getElem? (i := 176) rfl) rfl
theorem nw_10_63 : q_NW RX10 63 5 [.null, .null, .null, .int 0, .int 0, .int 0, .int 0, .int 0, .int 0, .int 0, .int 0, .null] := ⟨RX5, TX5, 12, tyX5, rfl, rfl, uX5, tyX5_ok, tb_298, tb_299, tb_132, fun j hj => by rcases (show j = 0 ∨ j = 1 ∨ j = 2 ∨ j = 3 ∨ j = 4 ∨ j = 5 ∨ j = 6 ∨ j = 7 ∨ j = 8 ∨ j = 9 ∨ j = 10 ∨ j = 11 by omega) with rfl | rfl | rfl | rfl | rfl | rfl | rfl | rfl | rfl | rfl | rfl | rfl <;> rfl⟩
theorem tb_300 : Cond.methodLink RX10 65 mX5_init.2.1 ∈ q_tb := ch_1 _ (List.mem_of_getElem? (i := 177) rfl) rfl
theorem tb_301 : Cond.instanceMethod mX5_init.2.1 ∈ q_tb := ch_1 _ (List.mem_of_getElem? (i := 178) rfl) rfl
theorem tb_302 : Cond.code mX5_init.2.1 mX5_init.2.2.1 mX5_init.2.2.2.1 mX5_init.2.2.2.2 ∈ q_tb := ch_1 _ (List.mem_of_getElem? (i := 179) rfl) rfl
theorem ci_10_65 : q_CI RX10 65 mX5_init 1 := ⟨Or.inl tb_300, rfl, rfl, tb_301, tb_132, tb_302, ⟨by decide +kernel, by decide +kernel, by decide +kernel⟩, by decide⟩
theorem fpf_10_68 : q_FPF RX10 68 10 9 (.object "MarbleBath$Reader") := ⟨by decide, RX10, TX10, 15, tyX10, rfl, rfl, by decide, uX10, tb_517, tyX10_ok, nmX10, rfl, rfl, by decide +kernel⟩
theorem tb_416 : Cond.classLink RX10 72 RX1 ∈ q_tb := ch_2 _ (List.mem_of_getElem? (i := 53) rfl) rfl
theorem tb_417 : Cond.instantiable RX1 14 ∈ q_tb := ch_2 _ (List.mem_of_getElem? (i := 54) rfl) rfl
theorem nw_10_72 : q_NW RX10 72 1 [.null, .null, .null, .null, .null, .null, .null, .int 0, .int 0, .int 0, .int 0, .int 0, .int 0, .int 0] := ⟨RX1, TX1, 14, tyX1, rfl, rfl, uX1, tyX1_ok, tb_416, tb_417, tb_138, fun j hj => by rcases (show j = 0 ∨ j = 1 ∨ j = 2 ∨ j = 3 ∨ j = 4 ∨ j = 5 ∨ j = 6 ∨ j = 7 ∨ j = 8 ∨ j = 9 ∨ j = 10 ∨ j = 11 ∨ j = 12 ∨ j = 13 by omega) with rfl | rfl | rfl | rfl | rfl | rfl | rfl | rfl | rfl | rfl | rfl | rfl | rfl | rfl <;> rfl⟩
theorem tb_418 : Cond.methodLink RX10 74 mX1_init.2.1 ∈ q_tb := ch_2 _ (List.mem_of_getElem? (i := 55) rfl) rfl
theorem tb_419 : Cond.instanceMethod mX1_init.2.1 ∈ q_tb := ch_2 _ (List.mem_of_getElem? (i := 56) rfl) rfl
theorem tb_420 : Cond.code mX1_init.2.1 mX1_init.2.2.1 mX1_init.2.2.2.1 mX1_init.2.2.2.2 ∈ q_tb := ch_2 _ (List.mem_of_getElem? (i := 57) rfl) rfl
theorem ci_10_74 : q_CI RX10 74 mX1_init 2 := ⟨Or.inl tb_418, rfl, rfl, tb_419, tb_138, tb_420, ⟨by decide +kernel, by decide +kernel, by decide +kernel⟩, by decide⟩
theorem fpf_10_77 : q_FPF RX10 77 10 10 (.object "MarbleBath$Doer") := ⟨by decide, RX10, TX10, 15, tyX10, rfl, rfl, by decide, uX10, tb_518, tyX10_ok, nmX10, rfl, rfl, by decide +kernel⟩
theorem tb_465 : Cond.classLink RX10 81 RX3 ∈ q_tb := ch_2 _ (List.mem_of_getElem? (i := 102) rfl) rfl
theorem tb_466 : Cond.instantiable RX3 12 ∈ q_tb := ch_2 _ (List.mem_of_getElem? (i := 103) rfl) rfl
theorem nw_10_81 : q_NW RX10 81 3 [.null, .null, .null, .null, .null, .null, .null, .null, .null, .int 0, .int 0, .int 0] := ⟨RX3, TX3, 12, tyX3, rfl, rfl, uX3, tyX3_ok, tb_465, tb_466, tb_139, fun j hj => by rcases (show j = 0 ∨ j = 1 ∨ j = 2 ∨ j = 3 ∨ j = 4 ∨ j = 5 ∨ j = 6 ∨ j = 7 ∨ j = 8 ∨ j = 9 ∨ j = 10 ∨ j = 11 by omega) with rfl | rfl | rfl | rfl | rfl | rfl | rfl | rfl | rfl | rfl | rfl | rfl <;> rfl⟩
theorem tb_467 : Cond.methodLink RX10 83 mX3_init.2.1 ∈ q_tb := ch_2 _ (List.mem_of_getElem? (i := 104) rfl) rfl
theorem tb_468 : Cond.instanceMethod mX3_init.2.1 ∈ q_tb := ch_2 _ (List.mem_of_getElem? (i := 105) rfl) rfl
theorem tb_469 : Cond.code mX3_init.2.1 mX3_init.2.2.1 mX3_init.2.2.2.1 mX3_init.2.2.2.2 ∈ q_tb := ch_2 _ (List.mem_of_getElem? (i := 106) rfl) rfl
theorem ci_10_83 : q_CI RX10 83 mX3_init 4 := ⟨Or.inl tb_467, rfl, rfl, tb_468, tb_139, tb_469, ⟨by decide +kernel, by decide +kernel, by decide +kernel⟩, by decide⟩
theorem fpf_10_86 : q_FPF RX10 86 10 11 (.object "MarbleBath$Maker") := ⟨by decide, RX10, TX10, 15, tyX10, rfl, rfl, by decide, uX10, tb_519, tyX10_ok, nmX10, rfl, rfl, by decide +kernel⟩
def wwX10_init (X : q_X) (h0 q1 q2 q3 q4 q5 q6 q7 q8 q9 q10 q11 q12 q13 q14 q15 q16 q17 q18 q19 q20 q21 q22 q23 q24 q25 q26 q27 q28 q29 q30 q31 q32 q33 q34 q35 q36 q37 q38 q39 q40 q41 q42 q43 q44 q45 q46 q47 q48 q49 q50 : Nat) : va_W := [(h0, .inr (10, [.ref q1, .ref q3, .ref q9, .ref q12, .ref q14, .ref q18, .ref q22, .ref q23, .ref q27, .ref q31, .ref q39, .ref q45, .int (-1), .int 0, .int (-1)])),
  (q1, .inr (9, [.ref q2, .int 0])),
  (q2, .inl (X.2.1 1, 2000, .inl (fun _ => 0))),
  (q3, .inr (2, [.ref q4, .ref q7, .ref q8])),
  (q7, .inl (X.2.1 2, 120, .inl (fun _ => 0))),
  (q8, .inl (X.2.1 0, 6, .inl (fun _ => 0))),
  (q4, .inr (6, [.ref q5, .ref q6, .int 0, .int 120])),
  (q5, .inl (X.2.1 0, 480, .inl (fun _ => 0))),
  (q6, .inl (X.2.1 0, 2880, .inl (fun _ => 0))),
  (q9, .inr (6, [.ref q10, .ref q11, .int 0, .int 480])),
  (q10, .inl (X.2.1 0, 480, .inl (fun _ => 0))),
  (q11, .inl (X.2.1 0, 2880, .inl (fun _ => 0))),
  (q12, .inr (0, [.ref q13, .ref q9, .int 0, .int 0, .int 0, .int 0])),
  (q13, .inl (X.2.1 0, 120, .inl (fun _ => 0))),
  (q14, .inr (8, [.ref q15, .ref q16, .ref q17, .int 0, .int 0, .int 0, .int 0, .int (-1), .int (-1)])),
  (q15, .inl (X.2.1 0, 256, .inl (fun _ => 0))),
  (q16, .inl (X.2.1 0, 256, .inl (fun _ => 0))),
  (q17, .inl (X.2.1 2, 256, .inl (fun _ => 0))),
  (q18, .inr (8, [.ref q19, .ref q20, .ref q21, .int 0, .int 0, .int 0, .int 0, .int (-1), .int (-1)])),
  (q19, .inl (X.2.1 0, 256, .inl (fun _ => 0))),
  (q20, .inl (X.2.1 0, 256, .inl (fun _ => 0))),
  (q21, .inl (X.2.1 2, 256, .inl (fun _ => 0))),
  (q22, .inl (X.2.1 0, 6, .inl (fun _ => 0))),
  (q23, .inr (4, [.ref q24, .ref q25, .ref q26, .int 0, .int 0])),
  (q24, .inl (X.2.1 0, 2000, .inl (fun _ => 0))),
  (q25, .inl (X.2.1 0, 8, .inl (fun _ => 0))),
  (q26, .inl (X.2.1 0, 8, .inl (fun _ => 0))),
  (q27, .inr (4, [.ref q28, .ref q29, .ref q30, .int 0, .int 0])),
  (q28, .inl (X.2.1 0, 2000, .inl (fun _ => 0))),
  (q29, .inl (X.2.1 0, 8, .inl (fun _ => 0))),
  (q30, .inl (X.2.1 0, 8, .inl (fun _ => 0))),
  (q31, .inr (5, [.ref q32, .ref q37, .ref q38, .int 0, .int 0, .int 0, .int 0, .int 0, .int 0, .int 0, .int 0, .ref q27])),
  (q32, .inr (7, [.ref q33, .ref q34, .ref q35, .ref q36, .int 0, .long 0])),
  (q33, .inl (X.2.1 3, 15, .inr (.inl (q_scn 61).1))),
  (q34, .inl (X.2.1 0, 501, .inl (fun _ => 0))),
  (q35, .inl (X.2.1 0, 501, .inl (fun _ => 0))),
  (q36, .inl (X.2.1 3, 501, .inr (.inl (fun _ => 0)))),
  (q37, .inl (X.2.1 3, 8, .inr (.inl (fun _ => 0)))),
  (q38, .inl (X.2.1 3, 8, .inr (.inl (fun _ => 0)))),
  (q39, .inr (1, [.ref q40, .ref q41, .ref q42, .ref q43, .ref q44, .ref q23, .ref q9, .int 0, .int 0, .int 0, .int 0, .int 0, .int 0, .int 0])),
  (q40, .inl (X.2.1 0, 64, .inl (fun _ => 0))),
  (q41, .inl (X.2.1 0, 64, .inl (fun _ => 0))),
  (q42, .inl (X.2.1 0, 64, .inl (fun _ => 0))),
  (q43, .inl (X.2.1 0, 8, .inl (fun _ => 0))),
  (q44, .inl (X.2.1 0, 6, .inl (fun _ => 0))),
  (q45, .inr (3, [.ref q39, .ref q9, .ref q12, .ref q14, .ref q46, .ref q47, .ref q48, .ref q49, .ref q50, .int 0, .int 0, .int 0])),
  (q46, .inl (X.2.1 0, 8, .inl (fun _ => 0))),
  (q47, .inl (X.2.1 0, 8, .inl (fun _ => 0))),
  (q48, .inl (X.2.1 0, 8, .inl (fun _ => 0))),
  (q49, .inl (X.2.1 0, 3, .inl (fun _ => 0))),
  (q50, .inl (X.2.1 0, 3, .inl (fun _ => 0)))]
set_option maxHeartbeats 4000000 in
set_option maxRecDepth 100000 in
theorem nX10_init (X : q_X) (l : Launch) (h0 : Nat) : q_KC X l mX10_init 6 50 16401 h0 [] 10 [.null, .null, .null, .null, .null, .null, .null, .null, .null, .null, .null, .null, .int 0, .int 0, .int 0] (fun ws => ∃ q1 q2 q3 q4 q5 q6 q7 q8 q9 q10 q11 q12 q13 q14 q15 q16 q17 q18 q19 q20 q21 q22 q23 q24 q25 q26 q27 q28 q29 q30 q31 q32 q33 q34 q35 q36 q37 q38 q39 q40 q41 q42 q43 q44 q45 q46 q47 q48 q49 q50 : Nat, ws = wwX10_init X h0 q1 q2 q3 q4 q5 q6 q7 q8 q9 q10 q11 q12 q13 q14 q15 q16 q17 q18 q19 q20 q21 q22 q23 q24 q25 q26 q27 q28 q29 q30 q31 q32 q33 q34 q35 q36 q37 q38 q39 q40 q41 q42 q43 q44 q45 q46 q47 q48 q49 q50) := by
  refine q_Kintro (lv := [(0, .ref h0)]) (by decide +kernel) rfl rfl (Nat.le_of_ble_eq_true rfl) rfl ?_
  refine q_Kaload_n 0 eX10_init_0 rfl rfl ?_
  refine q_Kobj eX10_init_1 ol_10_1 oi_1 oi_2 (by decide) (Nat.le_of_ble_eq_true rfl) ?_
  refine q_Kaload_n 0 eX10_init_4 rfl rfl ?_
  refine q_Knew (N := 2) eX10_init_5 nw_10_7 rfl (Nat.le_of_ble_eq_true rfl) (Nat.le_of_ble_eq_true rfl) (fun q1 => ?_)
  refine q_Kdup eX10_init_8 rfl ?_
  refine q_Kcall2 (wr := ((h0, .inr (10, [.null, .null, .null, .null, .null, .null, .null, .null, .null, .null, .null, .null, .int 0, .int 0, .int 0])) :: [])) (As := []) (st := [.ref q1, .ref h0]) eX10_init_9 ci_10_9 (nX9_init X l q1) rfl rfl (Nat.le_of_ble_eq_true rfl) (by decide) (Nat.le_of_ble_eq_true rfl) (Nat.le_of_ble_eq_true rfl) (fun w1 hp => ?_)
  obtain ⟨q2, rfl⟩ := hp
  refine q_KputF (ws' := ((h0, .inr (10, [.ref q1, .null, .null, .null, .null, .null, .null, .null, .null, .null, .null, .null, .int 0, .int 0, .int 0])) :: ([] ++ wwX9_init X q1 q2))) 0 eX10_init_12 fpf_10_10 rfl ⟨rfl, rfl⟩ (Nat.le_of_ble_eq_true rfl) rfl ?_
  refine q_Kaload_n 0 eX10_init_15 rfl rfl ?_
  refine q_Knew (N := 3) eX10_init_16 nw_10_16 rfl (Nat.le_of_ble_eq_true rfl) (Nat.le_of_ble_eq_true rfl) (fun q3 => ?_)
  refine q_Kdup eX10_init_19 rfl ?_
  refine q_Kcall2 (wr := ((h0, .inr (10, [.ref q1, .null, .null, .null, .null, .null, .null, .null, .null, .null, .null, .null, .int 0, .int 0, .int 0])) :: ([] ++ wwX9_init X q1 q2))) (As := []) (st := [.ref q3, .ref h0]) eX10_init_20 ci_10_18 (nX2_init X l q3) rfl rfl (Nat.le_of_ble_eq_true rfl) (by decide) (Nat.le_of_ble_eq_true rfl) (Nat.le_of_ble_eq_true rfl) (fun w1 hp => ?_)
  obtain ⟨q4, q5, q6, q7, q8, rfl⟩ := hp
  refine q_KputF (ws' := ((h0, .inr (10, [.ref q1, .ref q3, .null, .null, .null, .null, .null, .null, .null, .null, .null, .null, .int 0, .int 0, .int 0])) :: (([] ++ wwX9_init X q1 q2) ++ wwX2_init X q3 q4 q5 q6 q7 q8))) 0 eX10_init_23 fpf_10_19 rfl ⟨rfl, rfl⟩ (Nat.le_of_ble_eq_true rfl) rfl ?_
  refine q_Kaload_n 0 eX10_init_26 rfl rfl ?_
  refine q_Knew (N := 4) eX10_init_27 nw_10_23 rfl (Nat.le_of_ble_eq_true rfl) (Nat.le_of_ble_eq_true rfl) (fun q9 => ?_)
  refine q_Kdup eX10_init_30 rfl ?_
  refine q_Kcall2 (wr := ((h0, .inr (10, [.ref q1, .ref q3, .null, .null, .null, .null, .null, .null, .null, .null, .null, .null, .int 0, .int 0, .int 0])) :: (([] ++ wwX9_init X q1 q2) ++ wwX2_init X q3 q4 q5 q6 q7 q8))) (As := []) (st := [.ref q9, .ref h0]) eX10_init_31 ci_10_25 (nX6_init X l q9) rfl rfl (Nat.le_of_ble_eq_true rfl) (by decide) (Nat.le_of_ble_eq_true rfl) (Nat.le_of_ble_eq_true rfl) (fun w1 hp => ?_)
  obtain ⟨q10, q11, rfl⟩ := hp
  refine q_KputF (ws' := ((h0, .inr (10, [.ref q1, .ref q3, .ref q9, .null, .null, .null, .null, .null, .null, .null, .null, .null, .int 0, .int 0, .int 0])) :: ((([] ++ wwX9_init X q1 q2) ++ wwX2_init X q3 q4 q5 q6 q7 q8) ++ wwX6_init X q9 q10 q11))) 0 eX10_init_34 fpf_10_26 rfl ⟨rfl, rfl⟩ (Nat.le_of_ble_eq_true rfl) rfl ?_
  refine q_Kaload_n 0 eX10_init_37 rfl rfl ?_
  refine q_Knew (N := 6) eX10_init_38 nw_10_30 rfl (Nat.le_of_ble_eq_true rfl) (Nat.le_of_ble_eq_true rfl) (fun q12 => ?_)
  refine q_Kdup eX10_init_41 rfl ?_
  refine q_Kaload_n 0 eX10_init_42 rfl rfl ?_
  refine q_Kget 0 eX10_init_43 fl_10_26 rfl rfl ?_
  refine q_Kcall2 (wr := ((h0, .inr (10, [.ref q1, .ref q3, .ref q9, .null, .null, .null, .null, .null, .null, .null, .null, .null, .int 0, .int 0, .int 0])) :: ((([] ++ wwX9_init X q1 q2) ++ wwX2_init X q3 q4 q5 q6 q7 q8) ++ wwX6_init X q9 q10 q11))) (As := [.ref q9]) (st := [.ref q12, .ref h0]) eX10_init_46 ci_10_32 (nX0_init X l q12 q9) rfl rfl (Nat.le_of_ble_eq_true rfl) (by decide) (Nat.le_of_ble_eq_true rfl) (Nat.le_of_ble_eq_true rfl) (fun w1 hp => ?_)
  obtain ⟨q13, rfl⟩ := hp
  refine q_KputF (ws' := ((h0, .inr (10, [.ref q1, .ref q3, .ref q9, .ref q12, .null, .null, .null, .null, .null, .null, .null, .null, .int 0, .int 0, .int 0])) :: (((([] ++ wwX9_init X q1 q2) ++ wwX2_init X q3 q4 q5 q6 q7 q8) ++ wwX6_init X q9 q10 q11) ++ wwX0_init X q12 q13 q9))) 0 eX10_init_49 fpf_10_35 rfl ⟨rfl, rfl⟩ (Nat.le_of_ble_eq_true rfl) rfl ?_
  refine q_Kaload_n 0 eX10_init_52 rfl rfl ?_
  refine q_Knew (N := 9) eX10_init_53 nw_10_39 rfl (Nat.le_of_ble_eq_true rfl) (Nat.le_of_ble_eq_true rfl) (fun q14 => ?_)
  refine q_Kdup eX10_init_56 rfl ?_
  refine q_Kcall2 (wr := ((h0, .inr (10, [.ref q1, .ref q3, .ref q9, .ref q12, .null, .null, .null, .null, .null, .null, .null, .null, .int 0, .int 0, .int 0])) :: (((([] ++ wwX9_init X q1 q2) ++ wwX2_init X q3 q4 q5 q6 q7 q8) ++ wwX6_init X q9 q10 q11) ++ wwX0_init X q12 q13 q9))) (As := []) (st := [.ref q14, .ref h0]) eX10_init_57 ci_10_41 (nX8_init X l q14) rfl rfl (Nat.le_of_ble_eq_true rfl) (by decide) (Nat.le_of_ble_eq_true rfl) (Nat.le_of_ble_eq_true rfl) (fun w1 hp => ?_)
  obtain ⟨q15, q16, q17, rfl⟩ := hp
  refine q_KputF (ws' := ((h0, .inr (10, [.ref q1, .ref q3, .ref q9, .ref q12, .ref q14, .null, .null, .null, .null, .null, .null, .null, .int 0, .int 0, .int 0])) :: ((((([] ++ wwX9_init X q1 q2) ++ wwX2_init X q3 q4 q5 q6 q7 q8) ++ wwX6_init X q9 q10 q11) ++ wwX0_init X q12 q13 q9) ++ wwX8_init X q14 q15 q16 q17))) 0 eX10_init_60 fpf_10_42 rfl ⟨rfl, rfl⟩ (Nat.le_of_ble_eq_true rfl) rfl ?_
  refine q_Kaload_n 0 eX10_init_63 rfl rfl ?_
  refine q_Knew (N := 9) eX10_init_64 nw_10_39 rfl (Nat.le_of_ble_eq_true rfl) (Nat.le_of_ble_eq_true rfl) (fun q18 => ?_)
  refine q_Kdup eX10_init_67 rfl ?_
  refine q_Kcall2 (wr := ((h0, .inr (10, [.ref q1, .ref q3, .ref q9, .ref q12, .ref q14, .null, .null, .null, .null, .null, .null, .null, .int 0, .int 0, .int 0])) :: ((((([] ++ wwX9_init X q1 q2) ++ wwX2_init X q3 q4 q5 q6 q7 q8) ++ wwX6_init X q9 q10 q11) ++ wwX0_init X q12 q13 q9) ++ wwX8_init X q14 q15 q16 q17))) (As := []) (st := [.ref q18, .ref h0]) eX10_init_68 ci_10_41 (nX8_init X l q18) rfl rfl (Nat.le_of_ble_eq_true rfl) (by decide) (Nat.le_of_ble_eq_true rfl) (Nat.le_of_ble_eq_true rfl) (fun w1 hp => ?_)
  obtain ⟨q19, q20, q21, rfl⟩ := hp
  refine q_KputF (ws' := ((h0, .inr (10, [.ref q1, .ref q3, .ref q9, .ref q12, .ref q14, .ref q18, .null, .null, .null, .null, .null, .null, .int 0, .int 0, .int 0])) :: (((((([] ++ wwX9_init X q1 q2) ++ wwX2_init X q3 q4 q5 q6 q7 q8) ++ wwX6_init X q9 q10 q11) ++ wwX0_init X q12 q13 q9) ++ wwX8_init X q14 q15 q16 q17) ++ wwX8_init X q18 q19 q20 q21))) 0 eX10_init_71 fpf_10_46 rfl ⟨rfl, rfl⟩ (Nat.le_of_ble_eq_true rfl) rfl ?_
  refine q_Kaload_n 0 eX10_init_74 rfl rfl ?_
  refine q_Kbipush eX10_init_75 kbipush_6 ?_
  refine q_Knewi (N := 6) (ty := .int) 0 eX10_init_77 rfl rfl ra_int ac_int (fun cA => vp_int cA 6) (by decide) (by decide) (Nat.le_of_ble_eq_true rfl) (Nat.le_of_ble_eq_true rfl) (Nat.le_of_ble_eq_true rfl) (fun q22 => ?_)
  refine q_KputF (ws' := ((h0, .inr (10, [.ref q1, .ref q3, .ref q9, .ref q12, .ref q14, .ref q18, .ref q22, .null, .null, .null, .null, .null, .int 0, .int 0, .int 0])) :: ((((((([] ++ wwX9_init X q1 q2) ++ wwX2_init X q3 q4 q5 q6 q7 q8) ++ wwX6_init X q9 q10 q11) ++ wwX0_init X q12 q13 q9) ++ wwX8_init X q14 q15 q16 q17) ++ wwX8_init X q18 q19 q20 q21) ++ ([(q22, .inl (X.2.1 0, 6, .inl (fun _ => 0)))] : va_W)))) 0 eX10_init_79 fpf_10_49 rfl ⟨rfl, rfl⟩ (Nat.le_of_ble_eq_true rfl) rfl ?_
  refine q_Kaload_n 0 eX10_init_82 rfl rfl ?_
  refine q_Knew (N := 5) eX10_init_83 nw_10_53 rfl (Nat.le_of_ble_eq_true rfl) (Nat.le_of_ble_eq_true rfl) (fun q23 => ?_)
  refine q_Kdup eX10_init_86 rfl ?_
  refine q_Kcall2 (wr := ((h0, .inr (10, [.ref q1, .ref q3, .ref q9, .ref q12, .ref q14, .ref q18, .ref q22, .null, .null, .null, .null, .null, .int 0, .int 0, .int 0])) :: ((((((([] ++ wwX9_init X q1 q2) ++ wwX2_init X q3 q4 q5 q6 q7 q8) ++ wwX6_init X q9 q10 q11) ++ wwX0_init X q12 q13 q9) ++ wwX8_init X q14 q15 q16 q17) ++ wwX8_init X q18 q19 q20 q21) ++ ([(q22, .inl (X.2.1 0, 6, .inl (fun _ => 0)))] : va_W)))) (As := []) (st := [.ref q23, .ref h0]) eX10_init_87 ci_10_55 (nX4_init X l q23) rfl rfl (Nat.le_of_ble_eq_true rfl) (by decide) (Nat.le_of_ble_eq_true rfl) (Nat.le_of_ble_eq_true rfl) (fun w1 hp => ?_)
  obtain ⟨q24, q25, q26, rfl⟩ := hp
  refine q_Kput (ws' := ((h0, .inr (10, [.ref q1, .ref q3, .ref q9, .ref q12, .ref q14, .ref q18, .ref q22, .ref q23, .null, .null, .null, .null, .int 0, .int 0, .int 0])) :: (((((((([] ++ wwX9_init X q1 q2) ++ wwX2_init X q3 q4 q5 q6 q7 q8) ++ wwX6_init X q9 q10 q11) ++ wwX0_init X q12 q13 q9) ++ wwX8_init X q14 q15 q16 q17) ++ wwX8_init X q18 q19 q20 q21) ++ ([(q22, .inl (X.2.1 0, 6, .inl (fun _ => 0)))] : va_W)) ++ wwX4_init X q23 q24 q25 q26))) 0 eX10_init_90 fp_10_56 rfl ⟨rfl, rfl⟩ (Nat.le_of_ble_eq_true rfl) rfl ?_
  refine q_Kaload_n 0 eX10_init_93 rfl rfl ?_
  refine q_Knew (N := 5) eX10_init_94 nw_10_53 rfl (Nat.le_of_ble_eq_true rfl) (Nat.le_of_ble_eq_true rfl) (fun q27 => ?_)
  refine q_Kdup eX10_init_97 rfl ?_
  refine q_Kcall2 (wr := ((h0, .inr (10, [.ref q1, .ref q3, .ref q9, .ref q12, .ref q14, .ref q18, .ref q22, .ref q23, .null, .null, .null, .null, .int 0, .int 0, .int 0])) :: (((((((([] ++ wwX9_init X q1 q2) ++ wwX2_init X q3 q4 q5 q6 q7 q8) ++ wwX6_init X q9 q10 q11) ++ wwX0_init X q12 q13 q9) ++ wwX8_init X q14 q15 q16 q17) ++ wwX8_init X q18 q19 q20 q21) ++ ([(q22, .inl (X.2.1 0, 6, .inl (fun _ => 0)))] : va_W)) ++ wwX4_init X q23 q24 q25 q26))) (As := []) (st := [.ref q27, .ref h0]) eX10_init_98 ci_10_55 (nX4_init X l q27) rfl rfl (Nat.le_of_ble_eq_true rfl) (by decide) (Nat.le_of_ble_eq_true rfl) (Nat.le_of_ble_eq_true rfl) (fun w1 hp => ?_)
  obtain ⟨q28, q29, q30, rfl⟩ := hp
  refine q_Kput (ws' := ((h0, .inr (10, [.ref q1, .ref q3, .ref q9, .ref q12, .ref q14, .ref q18, .ref q22, .ref q23, .ref q27, .null, .null, .null, .int 0, .int 0, .int 0])) :: ((((((((([] ++ wwX9_init X q1 q2) ++ wwX2_init X q3 q4 q5 q6 q7 q8) ++ wwX6_init X q9 q10 q11) ++ wwX0_init X q12 q13 q9) ++ wwX8_init X q14 q15 q16 q17) ++ wwX8_init X q18 q19 q20 q21) ++ ([(q22, .inl (X.2.1 0, 6, .inl (fun _ => 0)))] : va_W)) ++ wwX4_init X q23 q24 q25 q26) ++ wwX4_init X q27 q28 q29 q30))) 0 eX10_init_101 fp_10_60 rfl ⟨rfl, rfl⟩ (Nat.le_of_ble_eq_true rfl) rfl ?_
  refine q_Kaload_n 0 eX10_init_104 rfl rfl ?_
  refine q_Knew (N := 12) eX10_init_105 nw_10_63 rfl (Nat.le_of_ble_eq_true rfl) (Nat.le_of_ble_eq_true rfl) (fun q31 => ?_)
  refine q_Kdup eX10_init_108 rfl ?_
  refine q_Kaload_n 0 eX10_init_109 rfl rfl ?_
  refine q_Kget 0 eX10_init_110 fl_10_60 rfl rfl ?_
  refine q_Kcall2 (wr := ((h0, .inr (10, [.ref q1, .ref q3, .ref q9, .ref q12, .ref q14, .ref q18, .ref q22, .ref q23, .ref q27, .null, .null, .null, .int 0, .int 0, .int 0])) :: ((((((((([] ++ wwX9_init X q1 q2) ++ wwX2_init X q3 q4 q5 q6 q7 q8) ++ wwX6_init X q9 q10 q11) ++ wwX0_init X q12 q13 q9) ++ wwX8_init X q14 q15 q16 q17) ++ wwX8_init X q18 q19 q20 q21) ++ ([(q22, .inl (X.2.1 0, 6, .inl (fun _ => 0)))] : va_W)) ++ wwX4_init X q23 q24 q25 q26) ++ wwX4_init X q27 q28 q29 q30))) (As := [.ref q27]) (st := [.ref q31, .ref h0]) eX10_init_113 ci_10_65 (nX5_init X l q31 q27) rfl rfl (Nat.le_of_ble_eq_true rfl) (by decide) (Nat.le_of_ble_eq_true rfl) (Nat.le_of_ble_eq_true rfl) (fun w1 hp => ?_)
  obtain ⟨q32, q33, q34, q35, q36, q37, q38, rfl⟩ := hp
  refine q_KputF (ws' := ((h0, .inr (10, [.ref q1, .ref q3, .ref q9, .ref q12, .ref q14, .ref q18, .ref q22, .ref q23, .ref q27, .ref q31, .null, .null, .int 0, .int 0, .int 0])) :: (((((((((([] ++ wwX9_init X q1 q2) ++ wwX2_init X q3 q4 q5 q6 q7 q8) ++ wwX6_init X q9 q10 q11) ++ wwX0_init X q12 q13 q9) ++ wwX8_init X q14 q15 q16 q17) ++ wwX8_init X q18 q19 q20 q21) ++ ([(q22, .inl (X.2.1 0, 6, .inl (fun _ => 0)))] : va_W)) ++ wwX4_init X q23 q24 q25 q26) ++ wwX4_init X q27 q28 q29 q30) ++ wwX5_init X q31 q32 q33 q34 q35 q36 q37 q38 q27))) 0 eX10_init_116 fpf_10_68 rfl ⟨rfl, rfl⟩ (Nat.le_of_ble_eq_true rfl) rfl ?_
  refine q_Kaload_n 0 eX10_init_119 rfl rfl ?_
  refine q_Knew (N := 14) eX10_init_120 nw_10_72 rfl (Nat.le_of_ble_eq_true rfl) (Nat.le_of_ble_eq_true rfl) (fun q39 => ?_)
  refine q_Kdup eX10_init_123 rfl ?_
  refine q_Kaload_n 0 eX10_init_124 rfl rfl ?_
  refine q_Kget 0 eX10_init_125 fl_10_56 rfl rfl ?_
  refine q_Kaload_n 0 eX10_init_128 rfl rfl ?_
  refine q_Kget 0 eX10_init_129 fl_10_26 rfl rfl ?_
  refine q_Kcall2 (wr := ((h0, .inr (10, [.ref q1, .ref q3, .ref q9, .ref q12, .ref q14, .ref q18, .ref q22, .ref q23, .ref q27, .ref q31, .null, .null, .int 0, .int 0, .int 0])) :: (((((((((([] ++ wwX9_init X q1 q2) ++ wwX2_init X q3 q4 q5 q6 q7 q8) ++ wwX6_init X q9 q10 q11) ++ wwX0_init X q12 q13 q9) ++ wwX8_init X q14 q15 q16 q17) ++ wwX8_init X q18 q19 q20 q21) ++ ([(q22, .inl (X.2.1 0, 6, .inl (fun _ => 0)))] : va_W)) ++ wwX4_init X q23 q24 q25 q26) ++ wwX4_init X q27 q28 q29 q30) ++ wwX5_init X q31 q32 q33 q34 q35 q36 q37 q38 q27))) (As := [.ref q23, .ref q9]) (st := [.ref q39, .ref h0]) eX10_init_132 ci_10_74 (nX1_init X l q39 q23 q9) rfl rfl (Nat.le_of_ble_eq_true rfl) (by decide) (Nat.le_of_ble_eq_true rfl) (Nat.le_of_ble_eq_true rfl) (fun w1 hp => ?_)
  obtain ⟨q40, q41, q42, q43, q44, rfl⟩ := hp
  refine q_KputF (ws' := ((h0, .inr (10, [.ref q1, .ref q3, .ref q9, .ref q12, .ref q14, .ref q18, .ref q22, .ref q23, .ref q27, .ref q31, .ref q39, .null, .int 0, .int 0, .int 0])) :: ((((((((((([] ++ wwX9_init X q1 q2) ++ wwX2_init X q3 q4 q5 q6 q7 q8) ++ wwX6_init X q9 q10 q11) ++ wwX0_init X q12 q13 q9) ++ wwX8_init X q14 q15 q16 q17) ++ wwX8_init X q18 q19 q20 q21) ++ ([(q22, .inl (X.2.1 0, 6, .inl (fun _ => 0)))] : va_W)) ++ wwX4_init X q23 q24 q25 q26) ++ wwX4_init X q27 q28 q29 q30) ++ wwX5_init X q31 q32 q33 q34 q35 q36 q37 q38 q27) ++ wwX1_init X q39 q40 q41 q42 q43 q44 q23 q9))) 0 eX10_init_135 fpf_10_77 rfl ⟨rfl, rfl⟩ (Nat.le_of_ble_eq_true rfl) rfl ?_
  refine q_Kaload_n 0 eX10_init_138 rfl rfl ?_
  refine q_Knew (N := 12) eX10_init_139 nw_10_81 rfl (Nat.le_of_ble_eq_true rfl) (Nat.le_of_ble_eq_true rfl) (fun q45 => ?_)
  refine q_Kdup eX10_init_142 rfl ?_
  refine q_Kaload_n 0 eX10_init_143 rfl rfl ?_
  refine q_Kget 0 eX10_init_144 fl_10_77 rfl rfl ?_
  refine q_Kaload_n 0 eX10_init_147 rfl rfl ?_
  refine q_Kget 0 eX10_init_148 fl_10_26 rfl rfl ?_
  refine q_Kaload_n 0 eX10_init_151 rfl rfl ?_
  refine q_Kget 0 eX10_init_152 fl_10_35 rfl rfl ?_
  refine q_Kaload_n 0 eX10_init_155 rfl rfl ?_
  refine q_Kget 0 eX10_init_156 fl_10_42 rfl rfl ?_
  refine q_Kcall2 (wr := ((h0, .inr (10, [.ref q1, .ref q3, .ref q9, .ref q12, .ref q14, .ref q18, .ref q22, .ref q23, .ref q27, .ref q31, .ref q39, .null, .int 0, .int 0, .int 0])) :: ((((((((((([] ++ wwX9_init X q1 q2) ++ wwX2_init X q3 q4 q5 q6 q7 q8) ++ wwX6_init X q9 q10 q11) ++ wwX0_init X q12 q13 q9) ++ wwX8_init X q14 q15 q16 q17) ++ wwX8_init X q18 q19 q20 q21) ++ ([(q22, .inl (X.2.1 0, 6, .inl (fun _ => 0)))] : va_W)) ++ wwX4_init X q23 q24 q25 q26) ++ wwX4_init X q27 q28 q29 q30) ++ wwX5_init X q31 q32 q33 q34 q35 q36 q37 q38 q27) ++ wwX1_init X q39 q40 q41 q42 q43 q44 q23 q9))) (As := [.ref q39, .ref q9, .ref q12, .ref q14]) (st := [.ref q45, .ref h0]) eX10_init_159 ci_10_83 (nX3_init X l q45 q39 q9 q12 q14) rfl rfl (Nat.le_of_ble_eq_true rfl) (by decide) (Nat.le_of_ble_eq_true rfl) (Nat.le_of_ble_eq_true rfl) (fun w1 hp => ?_)
  obtain ⟨q46, q47, q48, q49, q50, rfl⟩ := hp
  refine q_KputF (ws' := ((h0, .inr (10, [.ref q1, .ref q3, .ref q9, .ref q12, .ref q14, .ref q18, .ref q22, .ref q23, .ref q27, .ref q31, .ref q39, .ref q45, .int 0, .int 0, .int 0])) :: (((((((((((([] ++ wwX9_init X q1 q2) ++ wwX2_init X q3 q4 q5 q6 q7 q8) ++ wwX6_init X q9 q10 q11) ++ wwX0_init X q12 q13 q9) ++ wwX8_init X q14 q15 q16 q17) ++ wwX8_init X q18 q19 q20 q21) ++ ([(q22, .inl (X.2.1 0, 6, .inl (fun _ => 0)))] : va_W)) ++ wwX4_init X q23 q24 q25 q26) ++ wwX4_init X q27 q28 q29 q30) ++ wwX5_init X q31 q32 q33 q34 q35 q36 q37 q38 q27) ++ wwX1_init X q39 q40 q41 q42 q43 q44 q23 q9) ++ wwX3_init X q45 q46 q47 q48 q49 q50 q39 q9 q12 q14))) 0 eX10_init_162 fpf_10_86 rfl ⟨rfl, rfl⟩ (Nat.le_of_ble_eq_true rfl) rfl ?_
  refine q_Kaload_n 0 eX10_init_165 rfl rfl ?_
  refine q_Kiconst eX10_init_166 kiconst_m1 ?_
  refine q_Kput (ws' := ((h0, .inr (10, [.ref q1, .ref q3, .ref q9, .ref q12, .ref q14, .ref q18, .ref q22, .ref q23, .ref q27, .ref q31, .ref q39, .ref q45, .int (-1), .int 0, .int 0])) :: (((((((((((([] ++ wwX9_init X q1 q2) ++ wwX2_init X q3 q4 q5 q6 q7 q8) ++ wwX6_init X q9 q10 q11) ++ wwX0_init X q12 q13 q9) ++ wwX8_init X q14 q15 q16 q17) ++ wwX8_init X q18 q19 q20 q21) ++ ([(q22, .inl (X.2.1 0, 6, .inl (fun _ => 0)))] : va_W)) ++ wwX4_init X q23 q24 q25 q26) ++ wwX4_init X q27 q28 q29 q30) ++ wwX5_init X q31 q32 q33 q34 q35 q36 q37 q38 q27) ++ wwX1_init X q39 q40 q41 q42 q43 q44 q23 q9) ++ wwX3_init X q45 q46 q47 q48 q49 q50 q39 q9 q12 q14))) 0 eX10_init_167 fp_10_90 rfl ⟨rfl, rfl⟩ (Nat.le_of_ble_eq_true rfl) rfl ?_
  refine q_Kaload_n 0 eX10_init_170 rfl rfl ?_
  refine q_Kiconst eX10_init_171 kiconst_m1 ?_
  refine q_Kput (ws' := ((h0, .inr (10, [.ref q1, .ref q3, .ref q9, .ref q12, .ref q14, .ref q18, .ref q22, .ref q23, .ref q27, .ref q31, .ref q39, .ref q45, .int (-1), .int 0, .int (-1)])) :: (((((((((((([] ++ wwX9_init X q1 q2) ++ wwX2_init X q3 q4 q5 q6 q7 q8) ++ wwX6_init X q9 q10 q11) ++ wwX0_init X q12 q13 q9) ++ wwX8_init X q14 q15 q16 q17) ++ wwX8_init X q18 q19 q20 q21) ++ ([(q22, .inl (X.2.1 0, 6, .inl (fun _ => 0)))] : va_W)) ++ wwX4_init X q23 q24 q25 q26) ++ wwX4_init X q27 q28 q29 q30) ++ wwX5_init X q31 q32 q33 q34 q35 q36 q37 q38 q27) ++ wwX1_init X q39 q40 q41 q42 q43 q44 q23 q9) ++ wwX3_init X q45 q46 q47 q48 q49 q50 q39 q9 q12 q14))) 0 eX10_init_172 fp_10_94 rfl ⟨rfl, rfl⟩ (Nat.le_of_ble_eq_true rfl) rfl ?_
  exact q_Kret eX10_init_175 rfl (Nat.le_of_ble_eq_true rfl) (Nat.le_of_ble_eq_true rfl) ⟨q1, q2, q3, q4, q5, q6, q7, q8, q9, q10, q11, q12, q13, q14, q15, q16, q17, q18, q19, q20, q21, q22, q23, q24, q25, q26, q27, q28, q29, q30, q31, q32, q33, q34, q35, q36, q37, q38, q39, q40, q41, q42, q43, q44, q45, q46, q47, q48, q49, q50, rfl⟩
